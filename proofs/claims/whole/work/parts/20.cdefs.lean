/-! the class, as pure programs; its calls -/
theorem gV_X0_33 : GoodIn wg (wsV RX0 33 RX0 yX0_clear (wm yX0_clear cX0_clear 2 none)) := gi_V wM_X0_33 wN_X0_clear wV_X0_clear wI_X0 wC_X0_clear
theorem hd_X0_clear : yX0_clear.cls = RX0 ∧ yX0_clear.cls ≠ "java/lang/invoke/MethodHandle" ∧ yX0_clear.cls ≠ "java/lang/invoke/VarHandle" ∧ (parseMethodDescriptor yX0_clear.desc).map (fun d => d.parameters.length) = some 0 := by decide +kernel
theorem gV_X0_36 : GoodIn wg (wsV RX0 36 RX0 yX0_now (wm yX0_now cX0_now 1 (some .int))) := gi_V wM_X0_36 wN_X0_now wV_X0_now wI_X0 wC_X0_now
theorem hd_X0_now : yX0_now.cls = RX0 ∧ yX0_now.cls ≠ "java/lang/invoke/MethodHandle" ∧ yX0_now.cls ≠ "java/lang/invoke/VarHandle" ∧ (parseMethodDescriptor yX0_now.desc).map (fun d => d.parameters.length) = some 0 := by decide +kernel
theorem gV_X0_42 : GoodIn wg (wsV RX0 42 RX0 yX0_readFunction (wm yX0_readFunction cX0_readFunction 3 none)) := gi_V wM_X0_42 wN_X0_readFunction wV_X0_readFunction wI_X0 wC_X0_readFunction
theorem hd_X0_readFunction : yX0_readFunction.cls = RX0 ∧ yX0_readFunction.cls ≠ "java/lang/invoke/MethodHandle" ∧ yX0_readFunction.cls ≠ "java/lang/invoke/VarHandle" ∧ (parseMethodDescriptor yX0_readFunction.desc).map (fun d => d.parameters.length) = some 0 := by decide +kernel
theorem gV_X0_45 : GoodIn wg (wsV RX0 45 RX0 yX0_checkCalls (wm yX0_checkCalls cX0_checkCalls 2 none)) := gi_V wM_X0_45 wN_X0_checkCalls wV_X0_checkCalls wI_X0 wC_X0_checkCalls
theorem hd_X0_checkCalls : yX0_checkCalls.cls = RX0 ∧ yX0_checkCalls.cls ≠ "java/lang/invoke/MethodHandle" ∧ yX0_checkCalls.cls ≠ "java/lang/invoke/VarHandle" ∧ (parseMethodDescriptor yX0_checkCalls.desc).map (fun d => d.parameters.length) = some 0 := by decide +kernel
theorem gV_X0_48 : GoodIn wg (wsV RX0 48 RX4 yX4_length (wm yX4_length cX4_length 1 (some .int))) := gi_V wM_X0_48 wN_X4_length wV_X4_length wI_X4 wC_X4_length
theorem hd_X4_length : yX4_length.cls = RX4 ∧ yX4_length.cls ≠ "java/lang/invoke/MethodHandle" ∧ yX4_length.cls ≠ "java/lang/invoke/VarHandle" ∧ (parseMethodDescriptor yX4_length.desc).map (fun d => d.parameters.length) = some 0 := by decide +kernel
theorem gV_X0_51 : GoodIn wg (wsV RX0 51 RX3 yX3_parametersOf (wm yX3_parametersOf cX3_parametersOf 2 (some .int))) := gi_V wM_X0_51 wN_X3_parametersOf wV_X3_parametersOf wI_X3 wC_X3_parametersOf
theorem hd_X3_parametersOf : yX3_parametersOf.cls = RX3 ∧ yX3_parametersOf.cls ≠ "java/lang/invoke/MethodHandle" ∧ yX3_parametersOf.cls ≠ "java/lang/invoke/VarHandle" ∧ (parseMethodDescriptor yX3_parametersOf.desc).map (fun d => d.parameters.length) = some 1 := by decide +kernel
theorem gV_X0_57 : GoodIn wg (wsV RX0 57 RX0 yX0_fail (wm yX0_fail cX0_fail 2 none)) := gi_V wM_X0_57 wN_X0_fail wV_X0_fail wI_X0 wC_X0_fail
theorem hd_X0_fail : yX0_fail.cls = RX0 ∧ yX0_fail.cls ≠ "java/lang/invoke/MethodHandle" ∧ yX0_fail.cls ≠ "java/lang/invoke/VarHandle" ∧ (parseMethodDescriptor yX0_fail.desc).map (fun d => d.parameters.length) = some 1 := by decide +kernel
theorem gV_X0_61 : GoodIn wg (wsV RX0 61 RX3 yX3_clear (wm yX3_clear cX3_clear 2 none)) := gi_V wM_X0_61 wN_X3_clear wV_X3_clear wI_X3 wC_X3_clear
theorem hd_X3_clear : yX3_clear.cls = RX3 ∧ yX3_clear.cls ≠ "java/lang/invoke/MethodHandle" ∧ yX3_clear.cls ≠ "java/lang/invoke/VarHandle" ∧ (parseMethodDescriptor yX3_clear.desc).map (fun d => d.parameters.length) = some 0 := by decide +kernel
theorem gV_X0_62 : GoodIn wg (wsV RX0 62 RX4 yX4_at (wm yX4_at cX4_at 2 (some .int))) := gi_V wM_X0_62 wN_X4_at wV_X4_at wI_X4 wC_X4_at
theorem hd_X4_at : yX4_at.cls = RX4 ∧ yX4_at.cls ≠ "java/lang/invoke/MethodHandle" ∧ yX4_at.cls ≠ "java/lang/invoke/VarHandle" ∧ (parseMethodDescriptor yX4_at.desc).map (fun d => d.parameters.length) = some 1 := by decide +kernel
theorem gV_X0_65 : GoodIn wg (wsV RX0 65 RX0 yX0_expect (wm yX0_expect cX0_expect 2 none)) := gi_V wM_X0_65 wN_X0_expect wV_X0_expect wI_X0 wC_X0_expect
theorem hd_X0_expect : yX0_expect.cls = RX0 ∧ yX0_expect.cls ≠ "java/lang/invoke/MethodHandle" ∧ yX0_expect.cls ≠ "java/lang/invoke/VarHandle" ∧ (parseMethodDescriptor yX0_expect.desc).map (fun d => d.parameters.length) = some 1 := by decide +kernel
theorem gV_X0_68 : GoodIn wg (wsV RX0 68 RX0 yX0_next (wm yX0_next cX0_next 1 none)) := gi_V wM_X0_68 wN_X0_next wV_X0_next wI_X0 wC_X0_next
theorem hd_X0_next : yX0_next.cls = RX0 ∧ yX0_next.cls ≠ "java/lang/invoke/MethodHandle" ∧ yX0_next.cls ≠ "java/lang/invoke/VarHandle" ∧ (parseMethodDescriptor yX0_next.desc).map (fun d => d.parameters.length) = some 0 := by decide +kernel
theorem gV_X0_71 : GoodIn wg (wsV RX0 71 RX3 yX3_addFunction (wm yX3_addFunction cX3_addFunction 3 none)) := gi_V wM_X0_71 wN_X3_addFunction wV_X3_addFunction wI_X3 wC_X3_addFunction
theorem hd_X3_addFunction : yX3_addFunction.cls = RX3 ∧ yX3_addFunction.cls ≠ "java/lang/invoke/MethodHandle" ∧ yX3_addFunction.cls ≠ "java/lang/invoke/VarHandle" ∧ (parseMethodDescriptor yX3_addFunction.desc).map (fun d => d.parameters.length) = some 2 := by decide +kernel
theorem gV_X0_75 : GoodIn wg (wsV RX0 75 RX0 yX0_readBlock (wm yX0_readBlock cX0_readBlock 3 none)) := gi_V wM_X0_75 wN_X0_readBlock wV_X0_readBlock wI_X0 wC_X0_readBlock
theorem hd_X0_readBlock : yX0_readBlock.cls = RX0 ∧ yX0_readBlock.cls ≠ "java/lang/invoke/MethodHandle" ∧ yX0_readBlock.cls ≠ "java/lang/invoke/VarHandle" ∧ (parseMethodDescriptor yX0_readBlock.desc).map (fun d => d.parameters.length) = some 1 := by decide +kernel
theorem gV_X0_78 : GoodIn wg (wsV RX0 78 RX3 yX3_add (wm yX3_add cX3_add 4 (some .int))) := gi_V wM_X0_78 wN_X3_add wV_X3_add wI_X3 wC_X3_add
theorem hd_X3_add : yX3_add.cls = RX3 ∧ yX3_add.cls ≠ "java/lang/invoke/MethodHandle" ∧ yX3_add.cls ≠ "java/lang/invoke/VarHandle" ∧ (parseMethodDescriptor yX3_add.desc).map (fun d => d.parameters.length) = some 2 := by decide +kernel
theorem gV_X0_82 : GoodIn wg (wsV RX0 82 RX0 yX0_readStatement (wm yX0_readStatement cX0_readStatement 4 none)) := gi_V wM_X0_82 wN_X0_readStatement wV_X0_readStatement wI_X0 wC_X0_readStatement
theorem hd_X0_readStatement : yX0_readStatement.cls = RX0 ∧ yX0_readStatement.cls ≠ "java/lang/invoke/MethodHandle" ∧ yX0_readStatement.cls ≠ "java/lang/invoke/VarHandle" ∧ (parseMethodDescriptor yX0_readStatement.desc).map (fun d => d.parameters.length) = some 1 := by decide +kernel
theorem gV_X0_85 : GoodIn wg (wsV RX0 85 RX0 yX0_readIf (wm yX0_readIf cX0_readIf 4 none)) := gi_V wM_X0_85 wN_X0_readIf wV_X0_readIf wI_X0 wC_X0_readIf
theorem hd_X0_readIf : yX0_readIf.cls = RX0 ∧ yX0_readIf.cls ≠ "java/lang/invoke/MethodHandle" ∧ yX0_readIf.cls ≠ "java/lang/invoke/VarHandle" ∧ (parseMethodDescriptor yX0_readIf.desc).map (fun d => d.parameters.length) = some 1 := by decide +kernel
theorem gV_X0_88 : GoodIn wg (wsV RX0 88 RX0 yX0_readWhile (wm yX0_readWhile cX0_readWhile 4 none)) := gi_V wM_X0_88 wN_X0_readWhile wV_X0_readWhile wI_X0 wC_X0_readWhile
theorem hd_X0_readWhile : yX0_readWhile.cls = RX0 ∧ yX0_readWhile.cls ≠ "java/lang/invoke/MethodHandle" ∧ yX0_readWhile.cls ≠ "java/lang/invoke/VarHandle" ∧ (parseMethodDescriptor yX0_readWhile.desc).map (fun d => d.parameters.length) = some 2 := by decide +kernel
theorem gV_X0_91 : GoodIn wg (wsV RX0 91 RX0 yX0_readWord (wm yX0_readWord cX0_readWord 2 none)) := gi_V wM_X0_91 wN_X0_readWord wV_X0_readWord wI_X0 wC_X0_readWord
theorem hd_X0_readWord : yX0_readWord.cls = RX0 ∧ yX0_readWord.cls ≠ "java/lang/invoke/MethodHandle" ∧ yX0_readWord.cls ≠ "java/lang/invoke/VarHandle" ∧ (parseMethodDescriptor yX0_readWord.desc).map (fun d => d.parameters.length) = some 1 := by decide +kernel
theorem gV_X0_94 : GoodIn wg (wsS RX0 94 yX0_isOf (wm yX0_isOf cX0_isOf 3 (some .boolean))) := gi_S wM_X0_94 wS_X0_isOf wI_X0 wC_X0_isOf
theorem hd_X0_isOf : yX0_isOf.cls = RX0 ∧ yX0_isOf.cls ≠ "java/lang/invoke/MethodHandle" ∧ yX0_isOf.cls ≠ "java/lang/invoke/VarHandle" ∧ (parseMethodDescriptor yX0_isOf.desc).map (fun d => d.parameters.length) = some 3 := by decide +kernel
theorem gV_X0_98 : GoodIn wg (wsV RX0 98 RX0 yX0_readCall (wm yX0_readCall cX0_readCall 5 none)) := gi_V wM_X0_98 wN_X0_readCall wV_X0_readCall wI_X0 wC_X0_readCall
theorem hd_X0_readCall : yX0_readCall.cls = RX0 ∧ yX0_readCall.cls ≠ "java/lang/invoke/MethodHandle" ∧ yX0_readCall.cls ≠ "java/lang/invoke/VarHandle" ∧ (parseMethodDescriptor yX0_readCall.desc).map (fun d => d.parameters.length) = some 1 := by decide +kernel
theorem gV_X0_101 : GoodIn wg (wsV RX0 101 RX0 yX0_readSetting (wm yX0_readSetting cX0_readSetting 5 none)) := gi_V wM_X0_101 wN_X0_readSetting wV_X0_readSetting wI_X0 wC_X0_readSetting
theorem hd_X0_readSetting : yX0_readSetting.cls = RX0 ∧ yX0_readSetting.cls ≠ "java/lang/invoke/MethodHandle" ∧ yX0_readSetting.cls ≠ "java/lang/invoke/VarHandle" ∧ (parseMethodDescriptor yX0_readSetting.desc).map (fun d => d.parameters.length) = some 1 := by decide +kernel
theorem gV_X0_104 : GoodIn wg (wsV RX0 104 RX0 yX0_readChoice (wm yX0_readChoice cX0_readChoice 1 none)) := gi_V wM_X0_104 wN_X0_readChoice wV_X0_readChoice wI_X0 wC_X0_readChoice
theorem hd_X0_readChoice : yX0_readChoice.cls = RX0 ∧ yX0_readChoice.cls ≠ "java/lang/invoke/MethodHandle" ∧ yX0_readChoice.cls ≠ "java/lang/invoke/VarHandle" ∧ (parseMethodDescriptor yX0_readChoice.desc).map (fun d => d.parameters.length) = some 0 := by decide +kernel
theorem gV_X0_107 : GoodIn wg (wsV RX0 107 RX3 yX3_aim (wm yX3_aim cX3_aim 2 none)) := gi_V wM_X0_107 wN_X3_aim wV_X3_aim wI_X3 wC_X3_aim
theorem hd_X3_aim : yX3_aim.cls = RX3 ∧ yX3_aim.cls ≠ "java/lang/invoke/MethodHandle" ∧ yX3_aim.cls ≠ "java/lang/invoke/VarHandle" ∧ (parseMethodDescriptor yX3_aim.desc).map (fun d => d.parameters.length) = some 1 := by decide +kernel
theorem gV_X0_110 : GoodIn wg (wsV RX0 110 RX0 yX0_readValue (wm yX0_readValue cX0_readValue 3 none)) := gi_V wM_X0_110 wN_X0_readValue wV_X0_readValue wI_X0 wC_X0_readValue
theorem hd_X0_readValue : yX0_readValue.cls = RX0 ∧ yX0_readValue.cls ≠ "java/lang/invoke/MethodHandle" ∧ yX0_readValue.cls ≠ "java/lang/invoke/VarHandle" ∧ (parseMethodDescriptor yX0_readValue.desc).map (fun d => d.parameters.length) = some 1 := by decide +kernel
theorem gV_X0_113 : GoodIn wg (wsV RX0 113 RX0 yX0_readIndex (wm yX0_readIndex cX0_readIndex 2 none)) := gi_V wM_X0_113 wN_X0_readIndex wV_X0_readIndex wI_X0 wC_X0_readIndex
theorem hd_X0_readIndex : yX0_readIndex.cls = RX0 ∧ yX0_readIndex.cls ≠ "java/lang/invoke/MethodHandle" ∧ yX0_readIndex.cls ≠ "java/lang/invoke/VarHandle" ∧ (parseMethodDescriptor yX0_readIndex.desc).map (fun d => d.parameters.length) = some 1 := by decide +kernel
theorem gV_X0_116 : GoodIn wg (wsV RX0 116 RX0 yX0_readSum (wm yX0_readSum cX0_readSum 4 none)) := gi_V wM_X0_116 wN_X0_readSum wV_X0_readSum wI_X0 wC_X0_readSum
theorem hd_X0_readSum : yX0_readSum.cls = RX0 ∧ yX0_readSum.cls ≠ "java/lang/invoke/MethodHandle" ∧ yX0_readSum.cls ≠ "java/lang/invoke/VarHandle" ∧ (parseMethodDescriptor yX0_readSum.desc).map (fun d => d.parameters.length) = some 1 := by decide +kernel
theorem gV_X0_119 : GoodIn wg (wsV RX0 119 RX0 yX0_readProduct (wm yX0_readProduct cX0_readProduct 4 none)) := gi_V wM_X0_119 wN_X0_readProduct wV_X0_readProduct wI_X0 wC_X0_readProduct
theorem hd_X0_readProduct : yX0_readProduct.cls = RX0 ∧ yX0_readProduct.cls ≠ "java/lang/invoke/MethodHandle" ∧ yX0_readProduct.cls ≠ "java/lang/invoke/VarHandle" ∧ (parseMethodDescriptor yX0_readProduct.desc).map (fun d => d.parameters.length) = some 1 := by decide +kernel
theorem gV_X0_122 : GoodIn wg (wsV RX0 122 RX0 yX0_readPart (wm yX0_readPart cX0_readPart 3 none)) := gi_V wM_X0_122 wN_X0_readPart wV_X0_readPart wI_X0 wC_X0_readPart
theorem hd_X0_readPart : yX0_readPart.cls = RX0 ∧ yX0_readPart.cls ≠ "java/lang/invoke/MethodHandle" ∧ yX0_readPart.cls ≠ "java/lang/invoke/VarHandle" ∧ (parseMethodDescriptor yX0_readPart.desc).map (fun d => d.parameters.length) = some 1 := by decide +kernel
theorem gV_X0_125 : GoodIn wg (wsV RX0 125 RX0 yX0_readPiece (wm yX0_readPiece cX0_readPiece 3 none)) := gi_V wM_X0_125 wN_X0_readPiece wV_X0_readPiece wI_X0 wC_X0_readPiece
theorem hd_X0_readPiece : yX0_readPiece.cls = RX0 ∧ yX0_readPiece.cls ≠ "java/lang/invoke/MethodHandle" ∧ yX0_readPiece.cls ≠ "java/lang/invoke/VarHandle" ∧ (parseMethodDescriptor yX0_readPiece.desc).map (fun d => d.parameters.length) = some 1 := by decide +kernel
theorem gV_X0_128 : GoodIn wg (wsV RX0 128 RX0 yX0_readSingle (wm yX0_readSingle cX0_readSingle 2 none)) := gi_V wM_X0_128 wN_X0_readSingle wV_X0_readSingle wI_X0 wC_X0_readSingle
theorem hd_X0_readSingle : yX0_readSingle.cls = RX0 ∧ yX0_readSingle.cls ≠ "java/lang/invoke/MethodHandle" ∧ yX0_readSingle.cls ≠ "java/lang/invoke/VarHandle" ∧ (parseMethodDescriptor yX0_readSingle.desc).map (fun d => d.parameters.length) = some 1 := by decide +kernel
theorem gV_X0_131 : GoodIn wg (wsV RX0 131 RX0 yX0_checkCall (wm yX0_checkCall cX0_checkCall 3 none)) := gi_V wM_X0_131 wN_X0_checkCall wV_X0_checkCall wI_X0 wC_X0_checkCall
theorem hd_X0_checkCall : yX0_checkCall.cls = RX0 ∧ yX0_checkCall.cls ≠ "java/lang/invoke/MethodHandle" ∧ yX0_checkCall.cls ≠ "java/lang/invoke/VarHandle" ∧ (parseMethodDescriptor yX0_checkCall.desc).map (fun d => d.parameters.length) = some 2 := by decide +kernel
theorem gV_X2_57 : GoodIn wg (wsV RX2 57 RX2 yX2_clear (wm yX2_clear cX2_clear 2 none)) := gi_V wM_X2_57 wN_X2_clear wV_X2_clear wI_X2 wC_X2_clear
theorem hd_X2_clear : yX2_clear.cls = RX2 ∧ yX2_clear.cls ≠ "java/lang/invoke/MethodHandle" ∧ yX2_clear.cls ≠ "java/lang/invoke/VarHandle" ∧ (parseMethodDescriptor yX2_clear.desc).map (fun d => d.parameters.length) = some 0 := by decide +kernel
theorem gV_X2_60 : GoodIn wg (wsV RX2 60 RX2 yX2_enter (wm yX2_enter cX2_enter 3 none)) := gi_V wM_X2_60 wN_X2_enter wV_X2_enter wI_X2 wC_X2_enter
theorem hd_X2_enter : yX2_enter.cls = RX2 ∧ yX2_enter.cls ≠ "java/lang/invoke/MethodHandle" ∧ yX2_enter.cls ≠ "java/lang/invoke/VarHandle" ∧ (parseMethodDescriptor yX2_enter.desc).map (fun d => d.parameters.length) = some 1 := by decide +kernel
theorem gV_X2_64 : GoodIn wg (wsV RX2 64 RX1 yX1_count (wm yX1_count cX1_count 1 (some .int))) := gi_V wM_X2_64 wN_X1_count wV_X1_count wI_X1 wC_X1_count
theorem hd_X1_count : yX1_count.cls = RX1 ∧ yX1_count.cls ≠ "java/lang/invoke/MethodHandle" ∧ yX1_count.cls ≠ "java/lang/invoke/VarHandle" ∧ (parseMethodDescriptor yX1_count.desc).map (fun d => d.parameters.length) = some 0 := by decide +kernel
theorem gV_X2_71 : GoodIn wg (wsV RX2 71 RX3 yX3_stepAt (wm yX3_stepAt cX3_stepAt 2 (some .int))) := gi_V wM_X2_71 wN_X3_stepAt wV_X3_stepAt wI_X3 wC_X3_stepAt
theorem hd_X3_stepAt : yX3_stepAt.cls = RX3 ∧ yX3_stepAt.cls ≠ "java/lang/invoke/MethodHandle" ∧ yX3_stepAt.cls ≠ "java/lang/invoke/VarHandle" ∧ (parseMethodDescriptor yX3_stepAt.desc).map (fun d => d.parameters.length) = some 1 := by decide +kernel
theorem gV_X2_77 : GoodIn wg (wsV RX2 77 RX3 yX3_operandAt (wm yX3_operandAt cX3_operandAt 2 (some .int))) := gi_V wM_X2_77 wN_X3_operandAt wV_X3_operandAt wI_X3 wC_X3_operandAt
theorem hd_X3_operandAt : yX3_operandAt.cls = RX3 ∧ yX3_operandAt.cls ≠ "java/lang/invoke/MethodHandle" ∧ yX3_operandAt.cls ≠ "java/lang/invoke/VarHandle" ∧ (parseMethodDescriptor yX3_operandAt.desc).map (fun d => d.parameters.length) = some 1 := by decide +kernel
theorem gV_X2_80 : GoodIn wg (wsV RX2 80 RX2 yX2_act (wm yX2_act cX2_act 3 none)) := gi_V wM_X2_80 wN_X2_act wV_X2_act wI_X2 wC_X2_act
theorem hd_X2_act : yX2_act.cls = RX2 ∧ yX2_act.cls ≠ "java/lang/invoke/MethodHandle" ∧ yX2_act.cls ≠ "java/lang/invoke/VarHandle" ∧ (parseMethodDescriptor yX2_act.desc).map (fun d => d.parameters.length) = some 2 := by decide +kernel
theorem gV_X2_84 : GoodIn wg (wsV RX2 84 RX2 yX2_leave (wm yX2_leave cX2_leave 2 none)) := gi_V wM_X2_84 wN_X2_leave wV_X2_leave wI_X2 wC_X2_leave
theorem hd_X2_leave : yX2_leave.cls = RX2 ∧ yX2_leave.cls ≠ "java/lang/invoke/MethodHandle" ∧ yX2_leave.cls ≠ "java/lang/invoke/VarHandle" ∧ (parseMethodDescriptor yX2_leave.desc).map (fun d => d.parameters.length) = some 0 := by decide +kernel
theorem gV_X2_87 : GoodIn wg (wsV RX2 87 RX2 yX2_call (wm yX2_call cX2_call 2 none)) := gi_V wM_X2_87 wN_X2_call wV_X2_call wI_X2 wC_X2_call
theorem hd_X2_call : yX2_call.cls = RX2 ∧ yX2_call.cls ≠ "java/lang/invoke/MethodHandle" ∧ yX2_call.cls ≠ "java/lang/invoke/VarHandle" ∧ (parseMethodDescriptor yX2_call.desc).map (fun d => d.parameters.length) = some 1 := by decide +kernel
theorem gV_X2_90 : GoodIn wg (wsV RX2 90 RX2 yX2_pop (wm yX2_pop cX2_pop 1 (some .int))) := gi_V wM_X2_90 wN_X2_pop wV_X2_pop wI_X2 wC_X2_pop
theorem hd_X2_pop : yX2_pop.cls = RX2 ∧ yX2_pop.cls ≠ "java/lang/invoke/MethodHandle" ∧ yX2_pop.cls ≠ "java/lang/invoke/VarHandle" ∧ (parseMethodDescriptor yX2_pop.desc).map (fun d => d.parameters.length) = some 0 := by decide +kernel
theorem gV_X2_93 : GoodIn wg (wsV RX2 93 RX2 yX2_show (wm yX2_show cX2_show 2 none)) := gi_V wM_X2_93 wN_X2_show wV_X2_show wI_X2 wC_X2_show
theorem hd_X2_show : yX2_show.cls = RX2 ∧ yX2_show.cls ≠ "java/lang/invoke/MethodHandle" ∧ yX2_show.cls ≠ "java/lang/invoke/VarHandle" ∧ (parseMethodDescriptor yX2_show.desc).map (fun d => d.parameters.length) = some 1 := by decide +kernel
theorem gV_X2_96 : GoodIn wg (wsV RX2 96 RX2 yX2_read (wm yX2_read cX2_read 1 none)) := gi_V wM_X2_96 wN_X2_read wV_X2_read wI_X2 wC_X2_read
theorem hd_X2_read : yX2_read.cls = RX2 ∧ yX2_read.cls ≠ "java/lang/invoke/MethodHandle" ∧ yX2_read.cls ≠ "java/lang/invoke/VarHandle" ∧ (parseMethodDescriptor yX2_read.desc).map (fun d => d.parameters.length) = some 0 := by decide +kernel
theorem gV_X2_99 : GoodIn wg (wsV RX2 99 RX2 yX2_push (wm yX2_push cX2_push 2 none)) := gi_V wM_X2_99 wN_X2_push wV_X2_push wI_X2 wC_X2_push
theorem hd_X2_push : yX2_push.cls = RX2 ∧ yX2_push.cls ≠ "java/lang/invoke/MethodHandle" ∧ yX2_push.cls ≠ "java/lang/invoke/VarHandle" ∧ (parseMethodDescriptor yX2_push.desc).map (fun d => d.parameters.length) = some 1 := by decide +kernel
theorem gV_X2_102 : GoodIn wg (wsV RX2 102 RX2 yX2_actOnVariable (wm yX2_actOnVariable cX2_actOnVariable 3 none)) := gi_V wM_X2_102 wN_X2_actOnVariable wV_X2_actOnVariable wI_X2 wC_X2_actOnVariable
theorem hd_X2_actOnVariable : yX2_actOnVariable.cls = RX2 ∧ yX2_actOnVariable.cls ≠ "java/lang/invoke/MethodHandle" ∧ yX2_actOnVariable.cls ≠ "java/lang/invoke/VarHandle" ∧ (parseMethodDescriptor yX2_actOnVariable.desc).map (fun d => d.parameters.length) = some 2 := by decide +kernel
theorem gV_X2_105 : GoodIn wg (wsV RX2 105 RX2 yX2_globalAt (wm yX2_globalAt cX2_globalAt 2 (some .int))) := gi_V wM_X2_105 wN_X2_globalAt wV_X2_globalAt wI_X2 wC_X2_globalAt
theorem hd_X2_globalAt : yX2_globalAt.cls = RX2 ∧ yX2_globalAt.cls ≠ "java/lang/invoke/MethodHandle" ∧ yX2_globalAt.cls ≠ "java/lang/invoke/VarHandle" ∧ (parseMethodDescriptor yX2_globalAt.desc).map (fun d => d.parameters.length) = some 1 := by decide +kernel
theorem gV_X2_108 : GoodIn wg (wsV RX2 108 RX2 yX2_setGlobal (wm yX2_setGlobal cX2_setGlobal 3 none)) := gi_V wM_X2_108 wN_X2_setGlobal wV_X2_setGlobal wI_X2 wC_X2_setGlobal
theorem hd_X2_setGlobal : yX2_setGlobal.cls = RX2 ∧ yX2_setGlobal.cls ≠ "java/lang/invoke/MethodHandle" ∧ yX2_setGlobal.cls ≠ "java/lang/invoke/VarHandle" ∧ (parseMethodDescriptor yX2_setGlobal.desc).map (fun d => d.parameters.length) = some 2 := by decide +kernel
theorem gV_X2_111 : GoodIn wg (wsV RX2 111 RX2 yX2_localAt (wm yX2_localAt cX2_localAt 3 (some .int))) := gi_V wM_X2_111 wN_X2_localAt wV_X2_localAt wI_X2 wC_X2_localAt
theorem hd_X2_localAt : yX2_localAt.cls = RX2 ∧ yX2_localAt.cls ≠ "java/lang/invoke/MethodHandle" ∧ yX2_localAt.cls ≠ "java/lang/invoke/VarHandle" ∧ (parseMethodDescriptor yX2_localAt.desc).map (fun d => d.parameters.length) = some 1 := by decide +kernel
theorem gV_X2_114 : GoodIn wg (wsV RX2 114 RX2 yX2_setLocal (wm yX2_setLocal cX2_setLocal 4 none)) := gi_V wM_X2_114 wN_X2_setLocal wV_X2_setLocal wI_X2 wC_X2_setLocal
theorem hd_X2_setLocal : yX2_setLocal.cls = RX2 ∧ yX2_setLocal.cls ≠ "java/lang/invoke/MethodHandle" ∧ yX2_setLocal.cls ≠ "java/lang/invoke/VarHandle" ∧ (parseMethodDescriptor yX2_setLocal.desc).map (fun d => d.parameters.length) = some 2 := by decide +kernel
theorem gV_X2_117 : GoodIn wg (wsV RX2 117 RX2 yX2_getPlace (wm yX2_getPlace cX2_getPlace 3 none)) := gi_V wM_X2_117 wN_X2_getPlace wV_X2_getPlace wI_X2 wC_X2_getPlace
theorem hd_X2_getPlace : yX2_getPlace.cls = RX2 ∧ yX2_getPlace.cls ≠ "java/lang/invoke/MethodHandle" ∧ yX2_getPlace.cls ≠ "java/lang/invoke/VarHandle" ∧ (parseMethodDescriptor yX2_getPlace.desc).map (fun d => d.parameters.length) = some 1 := by decide +kernel
theorem gV_X2_120 : GoodIn wg (wsV RX2 120 RX2 yX2_setPlace (wm yX2_setPlace cX2_setPlace 5 none)) := gi_V wM_X2_120 wN_X2_setPlace wV_X2_setPlace wI_X2 wC_X2_setPlace
theorem hd_X2_setPlace : yX2_setPlace.cls = RX2 ∧ yX2_setPlace.cls ≠ "java/lang/invoke/MethodHandle" ∧ yX2_setPlace.cls ≠ "java/lang/invoke/VarHandle" ∧ (parseMethodDescriptor yX2_setPlace.desc).map (fun d => d.parameters.length) = some 1 := by decide +kernel
theorem gV_X2_123 : GoodIn wg (wsV RX2 123 RX2 yX2_combine (wm yX2_combine cX2_combine 4 none)) := gi_V wM_X2_123 wN_X2_combine wV_X2_combine wI_X2 wC_X2_combine
theorem hd_X2_combine : yX2_combine.cls = RX2 ∧ yX2_combine.cls ≠ "java/lang/invoke/MethodHandle" ∧ yX2_combine.cls ≠ "java/lang/invoke/VarHandle" ∧ (parseMethodDescriptor yX2_combine.desc).map (fun d => d.parameters.length) = some 1 := by decide +kernel
theorem gV_X2_126 : GoodIn wg (wsV RX2 126 RX2 yX2_divide (wm yX2_divide cX2_divide 4 none)) := gi_V wM_X2_126 wN_X2_divide wV_X2_divide wI_X2 wC_X2_divide
theorem hd_X2_divide : yX2_divide.cls = RX2 ∧ yX2_divide.cls ≠ "java/lang/invoke/MethodHandle" ∧ yX2_divide.cls ≠ "java/lang/invoke/VarHandle" ∧ (parseMethodDescriptor yX2_divide.desc).map (fun d => d.parameters.length) = some 3 := by decide +kernel
theorem gV_X2_132 : GoodIn wg (wsV RX2 132 RX1 yX1_take (wm yX1_take cX1_take 2 (some .int))) := gi_V wM_X2_132 wN_X1_take wV_X1_take wI_X1 wC_X1_take
theorem hd_X1_take : yX1_take.cls = RX1 ∧ yX1_take.cls ≠ "java/lang/invoke/MethodHandle" ∧ yX1_take.cls ≠ "java/lang/invoke/VarHandle" ∧ (parseMethodDescriptor yX1_take.desc).map (fun d => d.parameters.length) = some 0 := by decide +kernel
theorem gV_X2_135 : GoodIn wg (wsV RX2 135 RX2 yX2_placeAt (wm yX2_placeAt cX2_placeAt 4 (some .int))) := gi_V wM_X2_135 wN_X2_placeAt wV_X2_placeAt wI_X2 wC_X2_placeAt
theorem hd_X2_placeAt : yX2_placeAt.cls = RX2 ∧ yX2_placeAt.cls ≠ "java/lang/invoke/MethodHandle" ∧ yX2_placeAt.cls ≠ "java/lang/invoke/VarHandle" ∧ (parseMethodDescriptor yX2_placeAt.desc).map (fun d => d.parameters.length) = some 2 := by decide +kernel
theorem gV_X2_139 : GoodIn wg (wsV RX2 139 RX3 yX3_parametersOf (wm yX3_parametersOf cX3_parametersOf 2 (some .int))) := gi_V wM_X2_139 wN_X3_parametersOf wV_X3_parametersOf wI_X3 wC_X3_parametersOf
theorem gV_X2_142 : GoodIn wg (wsV RX2 142 RX3 yX3_entryOf (wm yX3_entryOf cX3_entryOf 2 (some .int))) := gi_V wM_X2_142 wN_X3_entryOf wV_X3_entryOf wI_X3 wC_X3_entryOf
theorem hd_X3_entryOf : yX3_entryOf.cls = RX3 ∧ yX3_entryOf.cls ≠ "java/lang/invoke/MethodHandle" ∧ yX3_entryOf.cls ≠ "java/lang/invoke/VarHandle" ∧ (parseMethodDescriptor yX3_entryOf.desc).map (fun d => d.parameters.length) = some 1 := by decide +kernel
theorem gV_X5_58 : GoodIn wg (wsS RX5 58 yX5_byteOf (wm yX5_byteOf cX5_byteOf 2 (some .int))) := gi_S wM_X5_58 wS_X5_byteOf wI_X5 wC_X5_byteOf
theorem hd_X5_byteOf : yX5_byteOf.cls = RX5 ∧ yX5_byteOf.cls ≠ "java/lang/invoke/MethodHandle" ∧ yX5_byteOf.cls ≠ "java/lang/invoke/VarHandle" ∧ (parseMethodDescriptor yX5_byteOf.desc).map (fun d => d.parameters.length) = some 2 := by decide +kernel
theorem gV_X5_64 : GoodIn wg (wsV RX5 64 RX4 yX4_length (wm yX4_length cX4_length 1 (some .int))) := gi_V wM_X5_64 wN_X4_length wV_X4_length wI_X4 wC_X4_length
theorem gV_X5_73 : GoodIn wg (wsV RX5 73 RX4 yX4_add (wm yX4_add cX4_add 2 none)) := gi_V wM_X5_73 wN_X4_add wV_X4_add wI_X4 wC_X4_add
theorem hd_X4_add : yX4_add.cls = RX4 ∧ yX4_add.cls ≠ "java/lang/invoke/MethodHandle" ∧ yX4_add.cls ≠ "java/lang/invoke/VarHandle" ∧ (parseMethodDescriptor yX4_add.desc).map (fun d => d.parameters.length) = some 1 := by decide +kernel
theorem gV_X5_77 : GoodIn wg (wsV RX5 77 RX0 yX0_fault (wm yX0_fault cX0_fault 2 (some .int))) := gi_V wM_X5_77 wN_X0_fault wV_X0_fault wI_X0 wC_X0_fault
theorem hd_X0_fault : yX0_fault.cls = RX0 ∧ yX0_fault.cls ≠ "java/lang/invoke/MethodHandle" ∧ yX0_fault.cls ≠ "java/lang/invoke/VarHandle" ∧ (parseMethodDescriptor yX0_fault.desc).map (fun d => d.parameters.length) = some 0 := by decide +kernel
theorem gV_X5_80 : GoodIn wg (wsV RX5 80 RX4 yX4_clear (wm yX4_clear cX4_clear 1 none)) := gi_V wM_X5_80 wN_X4_clear wV_X4_clear wI_X4 wC_X4_clear
theorem hd_X4_clear : yX4_clear.cls = RX4 ∧ yX4_clear.cls ≠ "java/lang/invoke/MethodHandle" ∧ yX4_clear.cls ≠ "java/lang/invoke/VarHandle" ∧ (parseMethodDescriptor yX4_clear.desc).map (fun d => d.parameters.length) = some 0 := by decide +kernel
theorem gV_X5_83 : GoodIn wg (wsV RX5 83 RX3 yX3_copy (wm yX3_copy cX3_copy 3 none)) := gi_V wM_X5_83 wN_X3_copy wV_X3_copy wI_X3 wC_X3_copy
theorem hd_X3_copy : yX3_copy.cls = RX3 ∧ yX3_copy.cls ≠ "java/lang/invoke/MethodHandle" ∧ yX3_copy.cls ≠ "java/lang/invoke/VarHandle" ∧ (parseMethodDescriptor yX3_copy.desc).map (fun d => d.parameters.length) = some 1 := by decide +kernel
theorem gV_X5_87 : GoodIn wg (wsV RX5 87 RX2 yX2_clear (wm yX2_clear cX2_clear 2 none)) := gi_V wM_X5_87 wN_X2_clear wV_X2_clear wI_X2 wC_X2_clear
theorem gV_X5_88 : GoodIn wg (wsV RX5 88 RX3 yX3_functions (wm yX3_functions cX3_functions 1 (some .int))) := gi_V wM_X5_88 wN_X3_functions wV_X3_functions wI_X3 wC_X3_functions
theorem hd_X3_functions : yX3_functions.cls = RX3 ∧ yX3_functions.cls ≠ "java/lang/invoke/MethodHandle" ∧ yX3_functions.cls ≠ "java/lang/invoke/VarHandle" ∧ (parseMethodDescriptor yX3_functions.desc).map (fun d => d.parameters.length) = some 0 := by decide +kernel
theorem gV_X5_93 : GoodIn wg (wsV RX5 93 RX2 yX2_begin (wm yX2_begin cX2_begin 1 none)) := gi_V wM_X5_93 wN_X2_begin wV_X2_begin wI_X2 wC_X2_begin
theorem hd_X2_begin : yX2_begin.cls = RX2 ∧ yX2_begin.cls ≠ "java/lang/invoke/MethodHandle" ∧ yX2_begin.cls ≠ "java/lang/invoke/VarHandle" ∧ (parseMethodDescriptor yX2_begin.desc).map (fun d => d.parameters.length) = some 0 := by decide +kernel
theorem gV_X5_98 : GoodIn wg (wsV RX5 98 RX1 yX1_full (wm yX1_full cX1_full 1 (some .boolean))) := gi_V wM_X5_98 wN_X1_full wV_X1_full wI_X1 wC_X1_full
theorem hd_X1_full : yX1_full.cls = RX1 ∧ yX1_full.cls ≠ "java/lang/invoke/MethodHandle" ∧ yX1_full.cls ≠ "java/lang/invoke/VarHandle" ∧ (parseMethodDescriptor yX1_full.desc).map (fun d => d.parameters.length) = some 0 := by decide +kernel
theorem gV_X5_104 : GoodIn wg (wsV RX5 104 RX1 yX1_add (wm yX1_add cX1_add 2 none)) := gi_V wM_X5_104 wN_X1_add wV_X1_add wI_X1 wC_X1_add
theorem hd_X1_add : yX1_add.cls = RX1 ∧ yX1_add.cls ≠ "java/lang/invoke/MethodHandle" ∧ yX1_add.cls ≠ "java/lang/invoke/VarHandle" ∧ (parseMethodDescriptor yX1_add.desc).map (fun d => d.parameters.length) = some 1 := by decide +kernel
theorem gV_X5_105 : GoodIn wg (wsV RX5 105 RX1 yX1_count (wm yX1_count cX1_count 1 (some .int))) := gi_V wM_X5_105 wN_X1_count wV_X1_count wI_X1 wC_X1_count
theorem gV_X5_110 : GoodIn wg (wsV RX5 110 RX2 yX2_state (wm yX2_state cX2_state 1 (some .int))) := gi_V wM_X5_110 wN_X2_state wV_X2_state wI_X2 wC_X2_state
theorem hd_X2_state : yX2_state.cls = RX2 ∧ yX2_state.cls ≠ "java/lang/invoke/MethodHandle" ∧ yX2_state.cls ≠ "java/lang/invoke/VarHandle" ∧ (parseMethodDescriptor yX2_state.desc).map (fun d => d.parameters.length) = some 0 := by decide +kernel
theorem gV_X5_115 : GoodIn wg (wsV RX5 115 RX2 yX2_go (wm yX2_go cX2_go 6 (some .int))) := gi_V wM_X5_115 wN_X2_go wV_X2_go wI_X2 wC_X2_go
theorem hd_X2_go : yX2_go.cls = RX2 ∧ yX2_go.cls ≠ "java/lang/invoke/MethodHandle" ∧ yX2_go.cls ≠ "java/lang/invoke/VarHandle" ∧ (parseMethodDescriptor yX2_go.desc).map (fun d => d.parameters.length) = some 1 := by decide +kernel
theorem gV_X5_119 : GoodIn wg (wsV RX5 119 RX2 yX2_hasShown (wm yX2_hasShown cX2_hasShown 2 (some .boolean))) := gi_V wM_X5_119 wN_X2_hasShown wV_X2_hasShown wI_X2 wC_X2_hasShown
theorem hd_X2_hasShown : yX2_hasShown.cls = RX2 ∧ yX2_hasShown.cls ≠ "java/lang/invoke/MethodHandle" ∧ yX2_hasShown.cls ≠ "java/lang/invoke/VarHandle" ∧ (parseMethodDescriptor yX2_hasShown.desc).map (fun d => d.parameters.length) = some 1 := by decide +kernel
theorem gV_X5_128 : GoodIn wg (wsV RX5 128 RX2 yX2_shownAt (wm yX2_shownAt cX2_shownAt 2 (some .int))) := gi_V wM_X5_128 wN_X2_shownAt wV_X2_shownAt wI_X2 wC_X2_shownAt
theorem hd_X2_shownAt : yX2_shownAt.cls = RX2 ∧ yX2_shownAt.cls ≠ "java/lang/invoke/MethodHandle" ∧ yX2_shownAt.cls ≠ "java/lang/invoke/VarHandle" ∧ (parseMethodDescriptor yX2_shownAt.desc).map (fun d => d.parameters.length) = some 1 := by decide +kernel
theorem gV_X5_133 : GoodIn wg (wsV RX5 133 RX2 yX2_globalAt (wm yX2_globalAt cX2_globalAt 2 (some .int))) := gi_V wM_X5_133 wN_X2_globalAt wV_X2_globalAt wI_X2 wC_X2_globalAt
theorem gV_X5_138 : GoodIn wg (wsV RX5 138 RX2 yX2_placeAt (wm yX2_placeAt cX2_placeAt 4 (some .int))) := gi_V wM_X5_138 wN_X2_placeAt wV_X2_placeAt wI_X2 wC_X2_placeAt
theorem gV_X5_141 : GoodIn wg (wsV RX5 141 RX2 yX2_begun (wm yX2_begun cX2_begun 1 (some .int))) := gi_V wM_X5_141 wN_X2_begun wV_X2_begun wI_X2 wC_X2_begun
theorem hd_X2_begun : yX2_begun.cls = RX2 ∧ yX2_begun.cls ≠ "java/lang/invoke/MethodHandle" ∧ yX2_begun.cls ≠ "java/lang/invoke/VarHandle" ∧ (parseMethodDescriptor yX2_begun.desc).map (fun d => d.parameters.length) = some 0 := by decide +kernel
theorem gV_X5_144 : GoodIn wg (wsV RX5 144 RX2 yX2_countShown (wm yX2_countShown cX2_countShown 1 (some .int))) := gi_V wM_X5_144 wN_X2_countShown wV_X2_countShown wI_X2 wC_X2_countShown
theorem hd_X2_countShown : yX2_countShown.cls = RX2 ∧ yX2_countShown.cls ≠ "java/lang/invoke/MethodHandle" ∧ yX2_countShown.cls ≠ "java/lang/invoke/VarHandle" ∧ (parseMethodDescriptor yX2_countShown.desc).map (fun d => d.parameters.length) = some 0 := by decide +kernel
theorem gV_X5_147 : GoodIn wg (wsV RX5 147 RX2 yX2_running (wm yX2_running cX2_running 1 (some .int))) := gi_V wM_X5_147 wN_X2_running wV_X2_running wI_X2 wC_X2_running
theorem hd_X2_running : yX2_running.cls = RX2 ∧ yX2_running.cls ≠ "java/lang/invoke/MethodHandle" ∧ yX2_running.cls ≠ "java/lang/invoke/VarHandle" ∧ (parseMethodDescriptor yX2_running.desc).map (fun d => d.parameters.length) = some 0 := by decide +kernel
def f_T_length  (μ : St) : Option Int32 :=
some (μ 121 0)
def f_T_at (a1 : Int32) (μ : St) : Option Int32 :=
jn (some (-1 : Int32)) fun k2 =>
if a1 < 0 then (
k2)
else (
if (μ 121 0) ≤ a1 then (
k2)
else (
if (160 : Int32) ≤ a1 then (
k2)
else (
gd (inb a1 160) <| nm (μ 7 a1.toNatClampNeg) fun x8 =>
some x8)))
def f_T_add (a1 : Int32) (μ : St) : Option St :=
if (μ 121 0) < 0 then (
some μ)
else (
if (160 : Int32) ≤ (μ 121 0) then (
some μ)
else (
gd (inb (μ 121 0) 160) <| nm (st μ 7 (μ 121 0).toNatClampNeg a1) fun μ4 =>
nm (st μ4 121 0 ((μ4 121 0) + (1 : Int32))) fun μ5 =>
some μ5))
def f_T_clear  (μ : St) : Option St :=
nm (st μ 121 0 (0 : Int32)) fun μ1 =>
some μ1
def f_K_count  (μ : St) : Option Int32 :=
some (μ 142 0)
def f_K_full  (μ : St) : Option Int32 :=
if (μ 142 0) < (8 : Int32) then (
some (0 : Int32))
else (
some (1 : Int32))
def f_K_add (a1 : Int32) (μ : St) : Option St :=
if (8 : Int32) ≤ (μ 142 0) then (
some μ)
else (
gd (inb (((μ 141 0) + (μ 142 0)) &&& (7 : Int32)) 8) <| nm (st μ 8 (((μ 141 0) + (μ 142 0)) &&& (7 : Int32)).toNatClampNeg a1) fun μ3 =>
nm (st μ3 142 0 ((μ3 142 0) + (1 : Int32))) fun μ4 =>
some μ4)
def f_K_take  (μ : St) : Option (Int32 × St) :=
if (μ 142 0) = 0 then (
some ((0 : Int32), μ))
else (
gd (inb ((μ 141 0) &&& (7 : Int32)) 8) <| nm (μ 8 ((μ 141 0) &&& (7 : Int32)).toNatClampNeg) fun x3 =>
nm (st μ 141 0 (((μ 141 0) + (1 : Int32)) &&& (7 : Int32))) fun μ4 =>
nm (st μ4 142 0 ((μ4 142 0) - (1 : Int32))) fun μ5 =>
some (x3, μ5))
def f_P_functions  (μ : St) : Option Int32 :=
some (μ 165 0)
def f_P_stepAt (a1 : Int32) (μ : St) : Option Int32 :=
jn (some (0 : Int32)) fun k2 =>
if a1 < 0 then (
k2)
else (
if (160 : Int32) ≤ a1 then (
k2)
else (
gd (inb a1 160) <| nm (μ 9 a1.toNatClampNeg) fun x7 =>
some x7))
def f_P_operandAt (a1 : Int32) (μ : St) : Option Int32 :=
jn (some (0 : Int32)) fun k2 =>
if a1 < 0 then (
k2)
else (
if (160 : Int32) ≤ a1 then (
k2)
else (
gd (inb a1 160) <| nm (μ 10 a1.toNatClampNeg) fun x7 =>
some x7))
def f_P_entryOf (a1 : Int32) (μ : St) : Option Int32 :=
jn (some (0 : Int32)) fun k2 =>
if a1 < 0 then (
k2)
else (
if (6 : Int32) ≤ a1 then (
k2)
else (
gd (inb a1 6) <| nm (μ 11 a1.toNatClampNeg) fun x7 =>
some x7))
def f_P_parametersOf (a1 : Int32) (μ : St) : Option Int32 :=
jn (some (-1 : Int32)) fun k2 =>
if a1 < 0 then (
k2)
else (
if (6 : Int32) ≤ a1 then (
k2)
else (
gd (inb a1 6) <| nm (μ 12 a1.toNatClampNeg) fun x7 =>
some (x7 - (1 : Int32))))
def f_P_copy (N : Nat)  (μ : St) : Option St :=
lpk (fun (k3 : Int32 → St → Option St) (x1 : Int32) (μ2 : St) =>
if (160 : Int32) ≤ x1 then (
lpk (fun (k8 : Int32 → St → Option St) (x6 : Int32) (μ7 : St) =>
if (6 : Int32) ≤ x6 then (
nm (st μ7 164 0 (μ7 184 0)) fun μ11 =>
nm (st μ11 165 0 (μ11 185 0)) fun μ12 =>
some μ12)
else (
gd (inb x6 6) <| nm (μ7 15 x6.toNatClampNeg) fun x14 =>
gd (inb x6 6) <| nm (st μ7 11 x6.toNatClampNeg x14) fun μ16 =>
gd (inb x6 6) <| nm (μ16 16 x6.toNatClampNeg) fun x18 =>
gd (inb x6 6) <| nm (st μ16 12 x6.toNatClampNeg x18) fun μ20 =>
nm (x6 + (1 : Int32)) fun x21 =>
k8 x21 μ20)) (fun _ _ => none) N (0 : Int32) μ2)
else (
gd (inb x1 160) <| nm (μ2 13 x1.toNatClampNeg) fun x23 =>
gd (inb x1 160) <| nm (st μ2 9 x1.toNatClampNeg x23) fun μ25 =>
gd (inb x1 160) <| nm (μ25 14 x1.toNatClampNeg) fun x27 =>
gd (inb x1 160) <| nm (st μ25 10 x1.toNatClampNeg x27) fun μ29 =>
nm (x1 + (1 : Int32)) fun x30 =>
k3 x30 μ29)) (fun _ _ => none) N (0 : Int32) μ
def f_D_clear (N : Nat)  (μ : St) : Option St :=
lpk (fun (k3 : Int32 → St → Option St) (x1 : Int32) (μ2 : St) =>
if (6 : Int32) ≤ x1 then (
nm (st μ2 184 0 (0 : Int32)) fun μ6 =>
nm (st μ6 185 0 (0 : Int32)) fun μ7 =>
some μ7)
else (
gd (inb x1 6) <| nm (st μ2 16 x1.toNatClampNeg (0 : Int32)) fun μ9 =>
nm (x1 + (1 : Int32)) fun x10 =>
k3 x10 μ9)) (fun _ _ => none) N (0 : Int32) μ
def f_D_addFunction (a1 : Int32) (a2 : Int32) (μ : St) : Option St :=
if a1 < 0 then (
some μ)
else (
if (6 : Int32) ≤ a1 then (
some μ)
else (
gd (inb a1 6) <| nm (st μ 15 a1.toNatClampNeg (μ 184 0)) fun μ4 =>
gd (inb a1 6) <| nm (st μ4 16 a1.toNatClampNeg (a2 + (1 : Int32))) fun μ6 =>
nm (st μ6 185 0 ((μ6 185 0) + (1 : Int32))) fun μ7 =>
some μ7))
def f_D_add (a1 : Int32) (a2 : Int32) (μ : St) : Option (Int32 × St) :=
nm (μ 184 0) fun x1 =>
if x1 < 0 then (
some (x1, μ))
else (
if (160 : Int32) ≤ x1 then (
some (x1, μ))
else (
if (160 : Int32) ≤ x1 then (
some (x1, μ))
else (
gd (inb x1 160) <| nm (st μ 13 x1.toNatClampNeg a1) fun μ6 =>
gd (inb x1 160) <| nm (st μ6 14 x1.toNatClampNeg a2) fun μ8 =>
nm (st μ8 184 0 ((μ8 184 0) + (1 : Int32))) fun μ9 =>
some (x1, μ9))))
def f_D_aim (a1 : Int32) (μ : St) : Option St :=
if a1 < 0 then (
some μ)
else (
if (160 : Int32) ≤ a1 then (
some μ)
else (
gd (inb a1 160) <| nm (st μ 14 a1.toNatClampNeg (μ 184 0)) fun μ4 =>
some μ4))
def f_D_parametersOf (a1 : Int32) (μ : St) : Option Int32 :=
jn (some (-1 : Int32)) fun k2 =>
if a1 < 0 then (
k2)
else (
if (6 : Int32) ≤ a1 then (
k2)
else (
gd (inb a1 6) <| nm (μ 16 a1.toNatClampNeg) fun x7 =>
some (x7 - (1 : Int32))))
def f_G_isOf (a0 : Int32) (a1 : Int32) (a2 : Int32) : Option Int32 :=
jn (some (0 : Int32)) fun k2 =>
if a0 < a1 then (
k2)
else (
if (a1 + a2) ≤ a0 then (
k2)
else (
some (1 : Int32)))
def f_G_now  (μ : St) : Option Int32 :=
ca (f_T_at (μ 203 0) μ) fun x2 =>
some x2
def f_G_next  (μ : St) : Option St :=
nm (st μ 203 0 ((μ 203 0) + (1 : Int32))) fun μ1 =>
some μ1
def f_G_fail (a1 : Int32) (μ : St) : Option St :=
if (μ 204 0) = 0 then (
nm (st μ 204 0 a1) fun μ3 =>
nm (st μ3 205 0 (μ3 203 0)) fun μ4 =>
nm (st μ4 203 0 (160 : Int32)) fun μ5 =>
some μ5)
else (
nm (st μ 203 0 (160 : Int32)) fun μ2 =>
some μ2)
def f_G_expect (a1 : Int32) (μ : St) : Option St :=
ca (f_T_at (μ 203 0) μ) fun x2 =>
if x2 = a1 then (
nm (st μ 203 0 ((μ 203 0) + (1 : Int32))) fun μ6 =>
some μ6)
else (
ca (f_G_fail (1 : Int32) μ) fun μ5 =>
some μ5)
def f_G_clear (N : Nat)  (μ : St) : Option St :=
ca (f_D_clear N μ) fun μ2 =>
lpk (fun (k5 : Int32 → St → Option St) (x3 : Int32) (μ4 : St) =>
if (160 : Int32) ≤ x3 then (
nm (st μ4 203 0 (0 : Int32)) fun μ8 =>
nm (st μ8 204 0 (0 : Int32)) fun μ9 =>
nm (st μ9 205 0 (0 : Int32)) fun μ10 =>
some μ10)
else (
gd (inb x3 160) <| nm (st μ4 17 x3.toNatClampNeg (-1 : Int32)) fun μ12 =>
nm (x3 + (1 : Int32)) fun x13 =>
k5 x13 μ12)) (fun _ _ => none) N (0 : Int32) μ2
def f_G_readIndex (rv : Int32 → St → Option St) (a1 : Int32) (μ : St) : Option St :=
ca (f_G_expect (21 : Int32) μ) fun μ2 =>
ca (rv a1 μ2) fun μ4 =>
ca (f_G_expect (22 : Int32) μ4) fun μ6 =>
some μ6
def f_G_readCall (N : Nat) (rv : Int32 → St → Option St) (a1 : Int32) (μ : St) : Option St :=
nm (μ 203 0) fun x1 =>
ca (f_G_now μ) fun x3 =>
nm (x3 - (52 : Int32)) fun x4 =>
ca (f_G_next μ) fun μ6 =>
ca (f_G_expect (6 : Int32) μ6) fun μ8 =>
ca (f_G_now μ8) fun x10 =>
jn (fun (x11 : Int32) (μ12 : St) =>
ca (f_G_expect (7 : Int32) μ12) fun μ16 =>
jn (fun (μ17 : St) =>
ca2 (f_D_add (42 : Int32) x4 μ17) fun x21 μ22 =>
some μ22) fun k18 =>
if x1 < 0 then (
k18 μ16)
else (
if (160 : Int32) ≤ x1 then (
k18 μ16)
else (
gd (inb x1 160) <| nm (st μ16 17 x1.toNatClampNeg x11) fun μ26 =>
k18 μ26))) fun k13 =>
if x10 = (7 : Int32) then (
k13 (0 : Int32) μ8)
else (
ca (rv a1 μ8) fun μ29 =>
lpk (fun (k32 : Int32 → St → Option St) (x30 : Int32) (μ31 : St) =>
if (160 : Int32) ≤ x30 then (
k13 x30 μ31)
else (
ca (f_G_now μ31) fun x36 =>
if x36 = (11 : Int32) then (
ca (f_G_next μ31) fun μ39 =>
ca (rv a1 μ39) fun μ41 =>
nm (x30 + (1 : Int32)) fun x42 =>
k32 x42 μ41)
else (
k13 x30 μ31))) (fun _ _ => none) N (1 : Int32) μ29)
def f_G_readSingle (a1 : Int32) (μ : St) : Option St :=
ca (f_G_isOf a1 (64 : Int32) (128 : Int32)) fun x2 =>
jn (fun (μ3 : St) =>
ca (f_G_next μ3) fun μ7 =>
some μ7) fun k4 =>
if x2 = 0 then (
if a1 = (5 : Int32) then (
ca2 (f_D_add (34 : Int32) (0 : Int32) μ) fun x25 μ26 =>
k4 μ26)
else (
ca (f_G_isOf a1 (32 : Int32) (8 : Int32)) fun x11 =>
if x11 = 0 then (
ca (f_G_isOf a1 (44 : Int32) (8 : Int32)) fun x14 =>
if x14 = 0 then (
ca (f_G_fail (1 : Int32) μ) fun μ17 =>
some μ17)
else (
ca2 (f_D_add (38 : Int32) (a1 - (44 : Int32)) μ) fun x19 μ20 =>
k4 μ20))
else (
ca2 (f_D_add (36 : Int32) (a1 - (32 : Int32)) μ) fun x22 μ23 =>
k4 μ23)))
else (
ca2 (f_D_add (33 : Int32) (a1 - (64 : Int32)) μ) fun x28 μ29 =>
k4 μ29)
def f_G_readPiece (N : Nat) (rv : Int32 → St → Option St) (a1 : Int32) (μ : St) : Option St :=
ca (f_G_now μ) fun x2 =>
ca (f_G_isOf x2 (52 : Int32) (6 : Int32)) fun x4 =>
if x4 = 0 then (
ca (f_G_isOf x2 (40 : Int32) (4 : Int32)) fun x7 =>
if x7 = 0 then (
if x2 = (6 : Int32) then (
ca (f_G_next μ) fun μ13 =>
ca (rv (a1 + (1 : Int32)) μ13) fun μ15 =>
ca (f_G_expect (7 : Int32) μ15) fun μ17 =>
some μ17)
else (
ca (f_G_readSingle x2 μ) fun μ11 =>
some μ11))
else (
ca (f_G_next μ) fun μ19 =>
ca (f_G_readIndex rv (a1 + (1 : Int32)) μ19) fun μ21 =>
ca2 (f_D_add (40 : Int32) (x2 - (40 : Int32)) μ21) fun x23 μ24 =>
some μ24))
else (
ca (f_G_readCall N rv (a1 + (1 : Int32)) μ) fun μ26 =>
some μ26)
def f_G_readPart (N : Nat) (rv : Int32 → St → Option St) (a1 : Int32) (μ : St) : Option St :=
ca (f_G_now μ) fun x2 =>
jn (ca (f_G_next μ) fun μ7 =>
ca (f_G_readPiece N rv a1 μ7) fun μ9 =>
jn (fun (y13 : Int32) =>
ca2 (f_D_add y13 (0 : Int32) μ9) fun x15 μ16 =>
some μ16) fun k11 =>
if x2 = (14 : Int32) then (
k11 (35 : Int32))
else (
k11 (20 : Int32))) fun k4 =>
if x2 = (14 : Int32) then (
k4)
else (
if x2 = (20 : Int32) then (
k4)
else (
ca (f_G_readPiece N rv a1 μ) fun μ21 =>
some μ21))
def f_G_readProduct (N : Nat) (rv : Int32 → St → Option St) (a1 : Int32) (μ : St) : Option St :=
ca (f_G_readPart N rv a1 μ) fun μ2 =>
ca (f_G_now μ2) fun x4 =>
lpk (fun (k8 : Int32 → Int32 → St → Option St) (x5 : Int32) (x6 : Int32) (μ7 : St) =>
if (160 : Int32) ≤ x6 then (
some μ7)
else (
ca (f_G_isOf x5 (15 : Int32) (3 : Int32)) fun x12 =>
if x12 = 0 then (
some μ7)
else (
ca (f_G_next μ7) fun μ15 =>
ca (f_G_readPart N rv a1 μ15) fun μ17 =>
ca2 (f_D_add x5 (0 : Int32) μ17) fun x19 μ20 =>
ca (f_G_now μ20) fun x22 =>
nm (x6 + (1 : Int32)) fun x23 =>
k8 x22 x23 μ20))) (fun _ _ _ => none) N x4 (0 : Int32) μ2
def f_G_readSum (N : Nat) (rv : Int32 → St → Option St) (a1 : Int32) (μ : St) : Option St :=
ca (f_G_readProduct N rv a1 μ) fun μ2 =>
ca (f_G_now μ2) fun x4 =>
lpk (fun (k8 : Int32 → Int32 → St → Option St) (x5 : Int32) (x6 : Int32) (μ7 : St) =>
if (160 : Int32) ≤ x6 then (
some μ7)
else (
jn (ca (f_G_next μ7) fun μ15 =>
ca (f_G_readProduct N rv a1 μ15) fun μ17 =>
ca2 (f_D_add x5 (0 : Int32) μ17) fun x19 μ20 =>
ca (f_G_now μ20) fun x22 =>
nm (x6 + (1 : Int32)) fun x23 =>
k8 x22 x23 μ20) fun k12 =>
if x5 = (13 : Int32) then (
k12)
else (
if x5 = (14 : Int32) then (
k12)
else (
some μ7)))) (fun _ _ _ => none) N x4 (0 : Int32) μ2
def f_G_readValueB (N : Nat) (rv : Int32 → St → Option St) (a1 : Int32) (μ : St) : Option St :=
if a1 ≤ (3 : Int32) then (
ca (f_G_readSum N rv a1 μ) fun μ3 =>
ca (f_G_now μ3) fun x5 =>
jn (ca (f_G_next μ3) fun μ10 =>
ca (f_G_readSum N rv a1 μ10) fun μ12 =>
ca2 (f_D_add x5 (0 : Int32) μ12) fun x14 μ15 =>
some μ15) fun k7 =>
if x5 = (18 : Int32) then (
k7)
else (
if x5 = (19 : Int32) then (
k7)
else (
some μ3)))
else (
ca (f_G_fail (3 : Int32) μ) fun μ19 =>
some μ19)
def f_G_readValue (N : Nat) : Nat → Int32 → St → Option St
  | 0 => fun _ _ => none
  | d + 1 => fun a μ => f_G_readValueB N (f_G_readValue N d) a μ
def f_G_readChoice (N : Nat)  (μ : St) : Option St :=
ca (f_G_expect (6 : Int32) μ) fun μ2 =>
ca (f_G_readValue N 8 (0 : Int32) μ2) fun μ4 =>
ca (f_G_expect (7 : Int32) μ4) fun μ6 =>
some μ6
def f_G_readWord (N : Nat) (a1 : Int32) (μ : St) : Option St :=
ca (f_G_next μ) fun μ2 =>
ca (f_G_readValue N 8 (0 : Int32) μ2) fun μ4 =>
ca2 (f_D_add a1 (0 : Int32) μ4) fun x6 μ7 =>
ca (f_G_expect (10 : Int32) μ7) fun μ9 =>
some μ9
def f_G_readSetting (N : Nat) (a1 : Int32) (μ : St) : Option St :=
ca (f_G_isOf a1 (32 : Int32) (8 : Int32)) fun x2 =>
ca (f_G_isOf a1 (44 : Int32) (8 : Int32)) fun x4 =>
ca (f_G_isOf a1 (40 : Int32) (4 : Int32)) fun x6 =>
jn (ca (f_G_next μ) fun μ11 =>
jn (fun (μ12 : St) =>
ca (f_G_expect (12 : Int32) μ12) fun μ16 =>
ca (f_G_readValue N 8 (0 : Int32) μ16) fun μ18 =>
ca (f_G_expect (10 : Int32) μ18) fun μ20 =>
if x2 = 0 then (
if x4 = 0 then (
ca2 (f_D_add (41 : Int32) (a1 - (40 : Int32)) μ20) fun x24 μ25 =>
some μ25)
else (
ca2 (f_D_add (39 : Int32) (a1 - (44 : Int32)) μ20) fun x27 μ28 =>
some μ28))
else (
ca2 (f_D_add (37 : Int32) (a1 - (32 : Int32)) μ20) fun x30 μ31 =>
some μ31)) fun k13 =>
if x6 = 0 then (
k13 μ11)
else (
ca (f_G_readIndex (f_G_readValue N 8) (0 : Int32) μ11) fun μ34 =>
k13 μ34)) fun k8 =>
if x2 = 0 then (
if x4 = 0 then (
if x6 = 0 then (
ca (f_G_fail (1 : Int32) μ) fun μ39 =>
some μ39)
else (
k8))
else (
k8))
else (
k8)
def f_G_readIf (N : Nat) (rb : Int32 → St → Option St) (a1 : Int32) (μ : St) : Option St :=
ca (f_G_next μ) fun μ2 =>
ca (f_G_readChoice N μ2) fun μ4 =>
ca2 (f_D_add (46 : Int32) (0 : Int32) μ4) fun x6 μ7 =>
ca (rb (a1 + (1 : Int32)) μ7) fun μ9 =>
ca (f_G_now μ9) fun x11 =>
if x11 = (1 : Int32) then (
ca (f_G_next μ9) fun μ16 =>
ca2 (f_D_add (45 : Int32) (0 : Int32) μ16) fun x18 μ19 =>
ca (f_D_aim x6 μ19) fun μ21 =>
ca (rb (a1 + (1 : Int32)) μ21) fun μ23 =>
ca (f_D_aim x18 μ23) fun μ25 =>
some μ25)
else (
ca (f_D_aim x6 μ9) fun μ14 =>
some μ14)
def f_G_readWhile (N : Nat) (rb : Int32 → St → Option St) (a1 : Int32) (a2 : Int32) (μ : St) : Option St :=
ca (f_G_next μ) fun μ2 =>
ca (f_G_readChoice N μ2) fun μ4 =>
ca2 (f_D_add (46 : Int32) (0 : Int32) μ4) fun x6 μ7 =>
ca (rb (a1 + (1 : Int32)) μ7) fun μ9 =>
ca2 (f_D_add (45 : Int32) a2 μ9) fun x11 μ12 =>
ca (f_D_aim x6 μ12) fun μ14 =>
some μ14
def f_G_readStatement (N : Nat) (rb : Int32 → St → Option St) (a1 : Int32) (μ : St) : Option St :=
ca2 (f_D_add (32 : Int32) (0 : Int32) μ) fun x2 μ3 =>
ca (f_G_now μ3) fun x5 =>
if x5 = 0 then (
ca (f_G_readIf N rb a1 μ3) fun μ29 =>
some μ29)
else (
if x5 = (2 : Int32) then (
ca (f_G_readWhile N rb a1 x2 μ3) fun μ27 =>
some μ27)
else (
if x5 = (3 : Int32) then (
ca (f_G_readWord N (0 : Int32) μ3) fun μ25 =>
some μ25)
else (
if x5 = (4 : Int32) then (
ca (f_G_readWord N (44 : Int32) μ3) fun μ23 =>
some μ23)
else (
ca (f_G_isOf x5 (52 : Int32) (6 : Int32)) fun x11 =>
if x11 = 0 then (
ca (f_G_readSetting N x5 μ3) fun μ14 =>
some μ14)
else (
ca (f_G_readCall N (f_G_readValue N 8) (0 : Int32) μ3) fun μ16 =>
ca2 (f_D_add (43 : Int32) (0 : Int32) μ16) fun x18 μ19 =>
ca (f_G_expect (10 : Int32) μ19) fun μ21 =>
some μ21)))))
def f_G_readBlockB (N : Nat) (rb : Int32 → St → Option St) (a1 : Int32) (μ : St) : Option St :=
if a1 ≤ (3 : Int32) then (
ca (f_G_expect (8 : Int32) μ) fun μ3 =>
lpk (fun (k6 : Int32 → St → Option St) (x4 : Int32) (μ5 : St) =>
jn (ca (f_G_expect (9 : Int32) μ5) fun μ12 =>
some μ12) fun k9 =>
if (160 : Int32) ≤ x4 then (
k9)
else (
if (μ5 204 0) = 0 then (
ca (f_G_now μ5) fun x16 =>
if x16 = (9 : Int32) then (
k9)
else (
ca (f_G_readStatement N rb a1 μ5) fun μ19 =>
nm (x4 + (1 : Int32)) fun x20 =>
k6 x20 μ19))
else (
k9))) (fun _ _ => none) N (0 : Int32) μ3)
else (
ca (f_G_fail (3 : Int32) μ) fun μ22 =>
some μ22)
def f_G_readBlock (N : Nat) : Nat → Int32 → St → Option St
  | 0 => fun _ _ => none
  | d + 1 => fun a μ => f_G_readBlockB N (f_G_readBlock N d) a μ
def f_G_readFunction (N : Nat)  (μ : St) : Option St :=
ca (f_G_expect (23 : Int32) μ) fun μ2 =>
ca (f_G_now μ2) fun x4 =>
nm (x4 - (52 : Int32)) fun x5 =>
jn (ca (f_G_fail (1 : Int32) μ2) fun μ10 =>
some μ10) fun k7 =>
if x5 < 0 then (
k7)
else (
if x5 < (6 : Int32) then (
ca (f_D_parametersOf x5 μ2) fun x14 =>
if x14 = (-1 : Int32) then (
ca (f_G_next μ2) fun μ17 =>
ca (f_G_now μ17) fun x19 =>
nm (x19 - (64 : Int32)) fun x20 =>
jn (ca (f_G_fail (1 : Int32) μ17) fun μ25 =>
some μ25) fun k22 =>
if x20 < 0 then (
k22)
else (
if x20 ≤ (3 : Int32) then (
ca (f_G_next μ17) fun μ29 =>
ca (f_D_addFunction x5 x20 μ29) fun μ31 =>
ca (f_G_readBlock N 8 (0 : Int32) μ31) fun μ33 =>
ca2 (f_D_add (33 : Int32) (0 : Int32) μ33) fun x35 μ36 =>
ca2 (f_D_add (0 : Int32) (0 : Int32) μ36) fun x38 μ39 =>
some μ39)
else (
k22)))
else (
ca (f_G_fail (2 : Int32) μ2) fun μ41 =>
some μ41))
else (
k7))
def f_G_checkCall (a1 : Int32) (a2 : Int32) (μ : St) : Option St :=
if a1 = (-1 : Int32) then (
ca (f_G_fail (4 : Int32) μ) fun μ6 =>
some μ6)
else (
if a1 = a2 then (
some μ)
else (
ca (f_G_fail (5 : Int32) μ) fun μ4 =>
some μ4))
def f_G_checkCalls (N : Nat)  (μ : St) : Option St :=
lpk (fun (k3 : Int32 → St → Option St) (x1 : Int32) (μ2 : St) =>
if (160 : Int32) ≤ x1 then (
some μ2)
else (
if (μ2 204 0) = 0 then (
gd (inb x1 160) <| nm (μ2 17 x1.toNatClampNeg) fun x8 =>
jn (fun (μ9 : St) =>
nm (x1 + (1 : Int32)) fun x12 =>
k3 x12 μ9) fun k10 =>
if x8 = (-1 : Int32) then (
k10 μ2)
else (
nm (st μ2 203 0 x1) fun μ14 =>
ca (f_G_now μ14) fun x16 =>
ca (f_D_parametersOf (x16 - (52 : Int32)) μ14) fun x18 =>
gd (inb x1 160) <| nm (μ14 17 x1.toNatClampNeg) fun x20 =>
ca (f_G_checkCall x18 x20 μ14) fun μ22 =>
k10 μ22))
else (
some μ2))) (fun _ _ => none) N (0 : Int32) μ
def f_G_fault (N : Nat)  (μ : St) : Option (Int32 × St) :=
ca (f_G_clear N μ) fun μ2 =>
lpk (fun (k5 : Int32 → St → Option (Int32 × St)) (x3 : Int32) (μ4 : St) =>
jn (ca (f_G_checkCalls N μ4) fun μ11 =>
ca (f_T_length μ11) fun x13 =>
nm (st μ11 203 0 x13) fun μ14 =>
ca (f_D_parametersOf (0 : Int32) μ14) fun x16 =>
jn (fun (μ17 : St) =>
some (((-1000 : Int32) * (μ17 204 0)) - (μ17 205 0), μ17)) fun k18 =>
if x16 = 0 then (
k18 μ14)
else (
ca (f_G_fail (6 : Int32) μ14) fun μ22 =>
k18 μ22)) fun k8 =>
if (160 : Int32) ≤ x3 then (
k8)
else (
ca (f_G_now μ4) fun x25 =>
if x25 = (-1 : Int32) then (
k8)
else (
ca (f_G_readFunction N μ4) fun μ28 =>
nm (x3 + (1 : Int32)) fun x29 =>
k5 x29 μ28))) (fun _ _ => none) N (0 : Int32) μ2
def f_E_state  (μ : St) : Option Int32 :=
some (μ 228 0)
def f_E_begun  (μ : St) : Option Int32 :=
some (μ 229 0)
def f_E_countShown  (μ : St) : Option Int32 :=
some (μ 230 0)
def f_E_running  (μ : St) : Option Int32 :=
some (μ 231 0)
def f_E_hasShown (a1 : Int32) (μ : St) : Option Int32 :=
jn (some (0 : Int32)) fun k2 =>
if a1 < 0 then (
k2)
else (
if (32 : Int32) ≤ a1 then (
k2)
else (
if (μ 230 0) ≤ a1 then (
k2)
else (
some (1 : Int32))))
def f_E_shownAt (a1 : Int32) (μ : St) : Option Int32 :=
gd (inb ((((μ 230 0) - (1 : Int32)) - a1) &&& (31 : Int32)) 32) <| nm (μ 23 ((((μ 230 0) - (1 : Int32)) - a1) &&& (31 : Int32)).toNatClampNeg) fun x2 =>
some x2
def f_E_globalAt (a1 : Int32) (μ : St) : Option Int32 :=
jn (some (0 : Int32)) fun k2 =>
if a1 < 0 then (
k2)
else (
if (8 : Int32) ≤ a1 then (
k2)
else (
gd (inb a1 8) <| nm (μ 18 a1.toNatClampNeg) fun x7 =>
some x7))
def f_E_placeAt (a1 : Int32) (a2 : Int32) (μ : St) : Option Int32 :=
nm ((a1 * (8 : Int32)) + a2) fun x1 =>
jn (some (0 : Int32)) fun k3 =>
if x1 < 0 then (
k3)
else (
if (32 : Int32) ≤ x1 then (
k3)
else (
gd (inb x1 32) <| nm (μ 19 x1.toNatClampNeg) fun x8 =>
some x8))
def f_E_clear (N : Nat)  (μ : St) : Option St :=
lpk (fun (k3 : Int32 → St → Option St) (x1 : Int32) (μ2 : St) =>
if (8 : Int32) ≤ x1 then (
lpk (fun (k8 : Int32 → St → Option St) (x6 : Int32) (μ7 : St) =>
if (32 : Int32) ≤ x6 then (
nm (st μ7 228 0 (0 : Int32)) fun μ11 =>
nm (st μ11 229 0 (0 : Int32)) fun μ12 =>
nm (st μ12 230 0 (0 : Int32)) fun μ13 =>
nm (st μ13 231 0 (0 : Int32)) fun μ14 =>
nm (st μ14 232 0 (0 : Int32)) fun μ15 =>
nm (st μ15 233 0 (0 : Int32)) fun μ16 =>
some μ16)
else (
gd (inb x6 32) <| nm (st μ7 19 x6.toNatClampNeg (0 : Int32)) fun μ18 =>
nm (x6 + (1 : Int32)) fun x19 =>
k8 x19 μ18)) (fun _ _ => none) N (0 : Int32) μ2)
else (
gd (inb x1 8) <| nm (st μ2 18 x1.toNatClampNeg (0 : Int32)) fun μ21 =>
nm (x1 + (1 : Int32)) fun x22 =>
k3 x22 μ21)) (fun _ _ => none) N (0 : Int32) μ
def f_E_push (a1 : Int32) (μ : St) : Option St :=
if (μ 232 0) < 0 then (
some μ)
else (
if (512 : Int32) ≤ (μ 232 0) then (
some μ)
else (
gd (inb (μ 232 0) 512) <| nm (st μ 22 (μ 232 0).toNatClampNeg (a1.toInt16.toInt32)) fun μ4 =>
nm (st μ4 232 0 ((μ4 232 0) + (1 : Int32))) fun μ5 =>
some μ5))
def f_E_pop  (μ : St) : Option (Int32 × St) :=
if (μ 232 0) < (1 : Int32) then (
some ((0 : Int32), μ))
else (
if (μ 232 0) ≤ (512 : Int32) then (
nm (st μ 232 0 ((μ 232 0) - (1 : Int32))) fun μ3 =>
gd (inb (μ3 232 0) 512) <| nm (μ3 22 (μ3 232 0).toNatClampNeg) fun x5 =>
some (x5, μ3))
else (
some ((0 : Int32), μ)))
def f_E_setLocal (a1 : Int32) (a2 : Int32) (μ : St) : Option St :=
nm ((((μ 231 0) - (1 : Int32)) * (8 : Int32)) + a1) fun x1 =>
if x1 < 0 then (
some μ)
else (
if (80 : Int32) ≤ x1 then (
some μ)
else (
gd (inb x1 80) <| nm (st μ 20 x1.toNatClampNeg a2) fun μ5 =>
some μ5))
def f_E_localAt (a1 : Int32) (μ : St) : Option Int32 :=
nm ((((μ 231 0) - (1 : Int32)) * (8 : Int32)) + a1) fun x1 =>
jn (some (0 : Int32)) fun k3 =>
if x1 < 0 then (
k3)
else (
if (80 : Int32) ≤ x1 then (
k3)
else (
gd (inb x1 80) <| nm (μ 20 x1.toNatClampNeg) fun x8 =>
some x8))
def f_E_setGlobal (a1 : Int32) (a2 : Int32) (μ : St) : Option St :=
if a1 < 0 then (
some μ)
else (
if (8 : Int32) ≤ a1 then (
some μ)
else (
gd (inb a1 8) <| nm (st μ 18 a1.toNatClampNeg a2) fun μ4 =>
some μ4))
def f_E_show (a1 : Int32) (μ : St) : Option St :=
gd (inb ((μ 230 0) &&& (31 : Int32)) 32) <| nm (st μ 23 ((μ 230 0) &&& (31 : Int32)).toNatClampNeg a1) fun μ2 =>
nm (st μ2 230 0 ((μ2 230 0) + (1 : Int32))) fun μ3 =>
some μ3
def f_E_enter (N : Nat) (a1 : Int32) (μ : St) : Option St :=
jn (fun (μ1 : St) =>
lpk (fun (k6 : Int32 → St → Option St) (x4 : Int32) (μ5 : St) =>
if (8 : Int32) ≤ x4 then (
ca (f_P_parametersOf a1 μ5) fun x10 =>
nm (x10 - (1 : Int32)) fun x11 =>
lpk (fun (k14 : Int32 → St → Option St) (x12 : Int32) (μ13 : St) =>
if x12 < 0 then (
ca (f_P_entryOf a1 μ13) fun x18 =>
nm (st μ13 233 0 x18) fun μ19 =>
some μ19)
else (
ca2 (f_E_pop μ13) fun x21 μ22 =>
ca (f_E_setLocal x12 x21 μ22) fun μ24 =>
nm (x12 + (-1 : Int32)) fun x25 =>
k14 x25 μ24)) (fun _ _ => none) N x11 μ5)
else (
ca (f_E_setLocal x4 (0 : Int32) μ5) fun μ27 =>
nm (x4 + (1 : Int32)) fun x28 =>
k6 x28 μ27)) (fun _ _ => none) N (0 : Int32) μ1) fun k2 =>
if (μ 231 0) < 0 then (
k2 μ)
else (
if (10 : Int32) ≤ (μ 231 0) then (
k2 μ)
else (
gd (inb (μ 231 0) 10) <| nm (st μ 21 (μ 231 0).toNatClampNeg (μ 233 0)) fun μ32 =>
nm (st μ32 231 0 ((μ32 231 0) + (1 : Int32))) fun μ33 =>
k2 μ33))
def f_E_call (N : Nat) (a1 : Int32) (μ : St) : Option St :=
if (μ 231 0) < (10 : Int32) then (
ca (f_E_enter N a1 μ) fun μ3 =>
some μ3)
else (
nm (st μ 228 0 (6 : Int32)) fun μ4 =>
some μ4)
def f_E_leave  (μ : St) : Option St :=
ca2 (f_E_pop μ) fun x2 μ3 =>
nm (st μ3 231 0 ((μ3 231 0) - (1 : Int32))) fun μ4 =>
jn (nm (st μ4 231 0 (0 : Int32)) fun μ8 =>
nm (st μ8 228 0 (3 : Int32)) fun μ9 =>
some μ9) fun k6 =>
if (μ4 231 0) ≤ 0 then (
k6)
else (
if (10 : Int32) ≤ (μ4 231 0) then (
k6)
else (
gd (inb (μ4 231 0) 10) <| nm (μ4 21 (μ4 231 0).toNatClampNeg) fun x13 =>
nm (st μ4 233 0 x13) fun μ14 =>
ca (f_E_push x2 μ14) fun μ16 =>
some μ16))
def f_E_read  (μ : St) : Option St :=
ca (f_K_count μ) fun x2 =>
if x2 ≤ 0 then (
nm (st μ 228 0 (2 : Int32)) fun μ4 =>
nm (st μ4 233 0 ((μ4 233 0) - (1 : Int32))) fun μ5 =>
some μ5)
else (
ca2 (f_K_take μ) fun x7 μ8 =>
ca (f_E_push x7 μ8) fun μ10 =>
some μ10)
def f_E_getPlace (a1 : Int32) (μ : St) : Option St :=
ca2 (f_E_pop μ) fun x2 μ3 =>
jn (nm (st μ3 228 0 (5 : Int32)) fun μ7 =>
some μ7) fun k5 =>
if x2 < 0 then (
k5)
else (
if x2 < (8 : Int32) then (
ca (f_E_placeAt a1 x2 μ3) fun x11 =>
ca (f_E_push x11 μ3) fun μ13 =>
some μ13)
else (
k5))
def f_E_setPlace (a1 : Int32) (μ : St) : Option St :=
ca2 (f_E_pop μ) fun x2 μ3 =>
ca2 (f_E_pop μ3) fun x5 μ6 =>
nm ((a1 * (8 : Int32)) + x5) fun x7 =>
jn (nm (st μ6 228 0 (5 : Int32)) fun μ11 =>
some μ11) fun k9 =>
if x5 < 0 then (
k9)
else (
if x5 < (8 : Int32) then (
if x7 < 0 then (
some μ6)
else (
if (32 : Int32) ≤ x7 then (
some μ6)
else (
gd (inb x7 32) <| nm (st μ6 19 x7.toNatClampNeg x2) fun μ17 =>
some μ17)))
else (
k9))
def f_E_divide (a1 : Int32) (a2 : Int32) (a3 : Int32) (μ : St) : Option St :=
if a3 = 0 then (
nm (st μ 228 0 (4 : Int32)) fun μ11 =>
some μ11)
else (
jn (fun (y5 : Int32) =>
ca (f_E_push y5 μ) fun μ7 =>
some μ7) fun k3 =>
if a1 = (16 : Int32) then (
gd (nz a3) <|
k3 (a2 / a3))
else (
gd (nz a3) <|
k3 (a2 - a2 / a3 * a3)))
def f_E_combine (a1 : Int32) (μ : St) : Option St :=
ca2 (f_E_pop μ) fun x2 μ3 =>
ca2 (f_E_pop μ3) fun x5 μ6 =>
if a1 = (13 : Int32) then (
ca (f_E_push (x5 + x2) μ6) fun μ9 =>
some μ9)
else (
if a1 = (14 : Int32) then (
ca (f_E_push (x5 - x2) μ6) fun μ12 =>
some μ12)
else (
if a1 = (15 : Int32) then (
ca (f_E_push (x5 * x2) μ6) fun μ15 =>
some μ15)
else (
if a1 = (18 : Int32) then (
jn (fun (y20 : Int32) =>
ca (f_E_push y20 μ6) fun μ22 =>
some μ22) fun k18 =>
if x2 ≤ x5 then (
k18 (0 : Int32))
else (
k18 (1 : Int32)))
else (
if a1 = (19 : Int32) then (
jn (fun (y28 : Int32) =>
ca (f_E_push y28 μ6) fun μ30 =>
some μ30) fun k26 =>
if x5 = x2 then (
k26 (1 : Int32))
else (
k26 (0 : Int32)))
else (
ca (f_E_divide a1 x5 x2 μ6) fun μ33 =>
some μ33)))))
def f_E_actOnVariable (a1 : Int32) (a2 : Int32) (μ : St) : Option St :=
if a1 = (36 : Int32) then (
ca (f_E_globalAt a2 μ) fun x3 =>
ca (f_E_push x3 μ) fun μ5 =>
some μ5)
else (
if a1 = (37 : Int32) then (
ca2 (f_E_pop μ) fun x8 μ9 =>
ca (f_E_setGlobal a2 x8 μ9) fun μ11 =>
some μ11)
else (
if a1 = (38 : Int32) then (
ca (f_E_localAt a2 μ) fun x14 =>
ca (f_E_push x14 μ) fun μ16 =>
some μ16)
else (
if a1 = (39 : Int32) then (
ca2 (f_E_pop μ) fun x19 μ20 =>
ca (f_E_setLocal a2 x19 μ20) fun μ22 =>
some μ22)
else (
if a1 = (40 : Int32) then (
ca (f_E_getPlace a2 μ) fun μ25 =>
some μ25)
else (
if a1 = (41 : Int32) then (
ca (f_E_setPlace a2 μ) fun μ28 =>
some μ28)
else (
ca (f_E_combine a1 μ) fun μ30 =>
some μ30))))))
def f_E_act (N : Nat) (a1 : Int32) (a2 : Int32) (μ : St) : Option St :=
if a1 = (0 : Int32) then (
ca (f_E_leave μ) fun μ3 =>
some μ3)
else (
if a1 = (20 : Int32) then (
ca2 (f_E_pop μ) fun x6 μ7 =>
jn (fun (y11 : Int32) =>
ca (f_E_push y11 μ7) fun μ13 =>
some μ13) fun k9 =>
if x6 = 0 then (
k9 (1 : Int32))
else (
k9 (0 : Int32)))
else (
if a1 = (32 : Int32) then (
nm (st μ 229 0 ((μ 229 0) + (1 : Int32))) fun μ16 =>
some μ16)
else (
if a1 = (33 : Int32) then (
ca (f_E_push a2 μ) fun μ19 =>
some μ19)
else (
if a1 = (34 : Int32) then (
ca (f_E_read μ) fun μ22 =>
some μ22)
else (
if a1 = (35 : Int32) then (
ca2 (f_E_pop μ) fun x25 μ26 =>
ca (f_E_push (-x25) μ26) fun μ28 =>
some μ28)
else (
if a1 = (42 : Int32) then (
ca (f_E_call N a2 μ) fun μ31 =>
some μ31)
else (
if a1 = (43 : Int32) then (
ca2 (f_E_pop μ) fun x34 μ35 =>
some μ35)
else (
if a1 = (44 : Int32) then (
ca2 (f_E_pop μ) fun x38 μ39 =>
ca (f_E_show x38 μ39) fun μ41 =>
some μ41)
else (
if a1 = (45 : Int32) then (
nm (st μ 233 0 a2) fun μ43 =>
some μ43)
else (
if a1 = (46 : Int32) then (
ca2 (f_E_pop μ) fun x46 μ47 =>
if x46 = 0 then (
nm (st μ47 233 0 a2) fun μ49 =>
some μ49)
else (
some μ47))
else (
ca (f_E_actOnVariable a1 a2 μ) fun μ51 =>
some μ51)))))))))))
def f_E_begin (N : Nat)  (μ : St) : Option St :=
ca (f_E_clear N μ) fun μ2 =>
ca (f_E_enter N (0 : Int32) μ2) fun μ4 =>
nm (st μ4 228 0 (1 : Int32)) fun μ5 =>
some μ5
def f_E_go (N : Nat) (a1 : Int32) (μ : St) : Option (Int32 × St) :=
jn (fun (μ1 : St) =>
nm ((μ1 229 0) + a1) fun x4 =>
lpk (fun (k7 : Int32 → St → Option (Int32 × St)) (x5 : Int32) (μ6 : St) =>
if (1000000 : Int32) ≤ x5 then (
some (μ6 228 0, μ6))
else (
if (μ6 228 0) = (1 : Int32) then (
ca (f_P_stepAt (μ6 233 0) μ6) fun x12 =>
jn (ca (f_P_operandAt (μ6 233 0) μ6) fun x17 =>
nm (st μ6 233 0 ((μ6 233 0) + (1 : Int32))) fun μ18 =>
ca (f_E_act N x12 x17 μ18) fun μ20 =>
nm (x5 + (1 : Int32)) fun x21 =>
k7 x21 μ20) fun k14 =>
if x12 = (32 : Int32) then (
if (μ6 229 0) < x4 then (
k14)
else (
some (μ6 228 0, μ6)))
else (
k14))
else (
some (μ6 228 0, μ6)))) (fun _ _ => none) N (0 : Int32) μ1) fun k2 =>
if (μ 228 0) = (2 : Int32) then (
ca (f_K_count μ) fun x26 =>
if x26 ≤ 0 then (
k2 μ)
else (
nm (st μ 228 0 (1 : Int32)) fun μ28 =>
k2 μ28))
else (
k2 μ)
def f_S_byteOf (a0 : Int32) (a1 : Int32) : Option Int32 :=
some (((a0.toUInt32 >>> (((8 : Int32) * a1).toUInt32 &&& Int32.toUInt32 31)).toInt32) &&& (255 : Int32))
def f_S_compile (N : Nat)  (μ : St) : Option (Int32 × St) :=
ca2 (f_G_fault N μ) fun x2 μ3 =>
ca (f_T_clear μ3) fun μ5 =>
if x2 = 0 then (
ca (f_P_copy N μ5) fun μ8 =>
ca (f_E_clear N μ8) fun μ10 =>
ca (f_P_functions μ10) fun x12 =>
some (x12, μ10))
else (
some (x2, μ5))
def f_S_about (a1 : Int32) (μ : St) : Option Int32 :=
if a1 = (0 : Int32) then (
ca (f_E_state μ) fun x3 =>
some x3)
else (
if a1 = (1 : Int32) then (
ca (f_T_length μ) fun x6 =>
some x6)
else (
if a1 = (2 : Int32) then (
ca (f_P_functions μ) fun x9 =>
some x9)
else (
if a1 = (3 : Int32) then (
ca (f_E_begun μ) fun x12 =>
some x12)
else (
if a1 = (4 : Int32) then (
ca (f_E_countShown μ) fun x15 =>
some x15)
else (
if a1 = (5 : Int32) then (
ca (f_K_count μ) fun x18 =>
some x18)
else (
if a1 = (6 : Int32) then (
ca (f_E_running μ) fun x21 =>
some x21)
else (
some (-1 : Int32))))))))
