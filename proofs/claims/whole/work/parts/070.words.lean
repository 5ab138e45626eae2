abbrev iX0_plan : zMI := (RX0, cX0_plan, 4, none, 0, 0)
theorem hy_X0_plan : yX0_plan.cls ≠ "java/lang/invoke/MethodHandle" ∧ yX0_plan.cls ≠ "java/lang/invoke/VarHandle" ∧ (parseMethodDescriptor yX0_plan.desc).map (fun d => d.parameters.length) = some 3 := by decide +kernel
abbrev iX0_copy : zMI := (RX0, cX0_copy, 3, none, 1, 68)
theorem hy_X0_copy : yX0_copy.cls ≠ "java/lang/invoke/MethodHandle" ∧ yX0_copy.cls ≠ "java/lang/invoke/VarHandle" ∧ (parseMethodDescriptor yX0_copy.desc).map (fun d => d.parameters.length) = some 1 := by decide +kernel
abbrev iX0_measure : zMI := (RX0, cX0_measure, 2, (some .int), 0, 0)
theorem hy_X0_measure : yX0_measure.cls ≠ "java/lang/invoke/MethodHandle" ∧ yX0_measure.cls ≠ "java/lang/invoke/VarHandle" ∧ (parseMethodDescriptor yX0_measure.desc).map (fun d => d.parameters.length) = some 1 := by decide +kernel
abbrev iX0_setMeasure : zMI := (RX0, cX0_setMeasure, 3, none, 0, 0)
theorem hy_X0_setMeasure : yX0_setMeasure.cls ≠ "java/lang/invoke/MethodHandle" ∧ yX0_setMeasure.cls ≠ "java/lang/invoke/VarHandle" ∧ (parseMethodDescriptor yX0_setMeasure.desc).map (fun d => d.parameters.length) = some 2 := by decide +kernel
abbrev iX0_allows : zMI := (RX0, cX0_allows, 4, (some .boolean), 0, 0)
theorem hy_X0_allows : yX0_allows.cls ≠ "java/lang/invoke/MethodHandle" ∧ yX0_allows.cls ≠ "java/lang/invoke/VarHandle" ∧ (parseMethodDescriptor yX0_allows.desc).map (fun d => d.parameters.length) = some 3 := by decide +kernel
abbrev iX0_allowsItsPlan : zMI := (RX0, cX0_allowsItsPlan, 1, (some .boolean), 1, 23)
theorem hy_X0_allowsItsPlan : yX0_allowsItsPlan.cls ≠ "java/lang/invoke/MethodHandle" ∧ yX0_allowsItsPlan.cls ≠ "java/lang/invoke/VarHandle" ∧ (parseMethodDescriptor yX0_allowsItsPlan.desc).map (fun d => d.parameters.length) = some 0 := by decide +kernel
abbrev iX0_hasPlan : zMI := (RX0, cX0_hasPlan, 4, (some .boolean), 0, 0)
theorem hy_X0_hasPlan : yX0_hasPlan.cls ≠ "java/lang/invoke/MethodHandle" ∧ yX0_hasPlan.cls ≠ "java/lang/invoke/VarHandle" ∧ (parseMethodDescriptor yX0_hasPlan.desc).map (fun d => d.parameters.length) = some 3 := by decide +kernel
abbrev iX0_toNextPlan : zMI := (RX0, cX0_toNextPlan, 3, (some .boolean), 1, 23)
theorem hy_X0_toNextPlan : yX0_toNextPlan.cls ≠ "java/lang/invoke/MethodHandle" ∧ yX0_toNextPlan.cls ≠ "java/lang/invoke/VarHandle" ∧ (parseMethodDescriptor yX0_toNextPlan.desc).map (fun d => d.parameters.length) = some 2 := by decide +kernel
abbrev iX0_pageOf : zMI := (RX0, cX0_pageOf, 2, (some .int), 0, 0)
theorem hy_X0_pageOf : yX0_pageOf.cls ≠ "java/lang/invoke/MethodHandle" ∧ yX0_pageOf.cls ≠ "java/lang/invoke/VarHandle" ∧ (parseMethodDescriptor yX0_pageOf.desc).map (fun d => d.parameters.length) = some 1 := by decide +kernel
abbrev iX6_isText : zMI := (RX6, cX6_isText, 1, (some .boolean), 0, 0)
theorem hy_X6_isText : yX6_isText.cls ≠ "java/lang/invoke/MethodHandle" ∧ yX6_isText.cls ≠ "java/lang/invoke/VarHandle" ∧ (parseMethodDescriptor yX6_isText.desc).map (fun d => d.parameters.length) = some 1 := by decide +kernel
abbrev iX0_hasWord : zMI := (RX0, cX0_hasWord, 3, (some .boolean), 1, 20)
theorem hy_X0_hasWord : yX0_hasWord.cls ≠ "java/lang/invoke/MethodHandle" ∧ yX0_hasWord.cls ≠ "java/lang/invoke/VarHandle" ∧ (parseMethodDescriptor yX0_hasWord.desc).map (fun d => d.parameters.length) = some 2 := by decide +kernel
abbrev iX0_setSize : zMI := (RX0, cX0_setSize, 4, (some .boolean), 2, 42)
theorem hy_X0_setSize : yX0_setSize.cls ≠ "java/lang/invoke/MethodHandle" ∧ yX0_setSize.cls ≠ "java/lang/invoke/VarHandle" ∧ (parseMethodDescriptor yX0_setSize.desc).map (fun d => d.parameters.length) = some 3 := by decide +kernel
abbrev iX0_moveTies : zMI := (RX0, cX0_moveTies, 5, none, 0, 0)
theorem hy_X0_moveTies : yX0_moveTies.cls ≠ "java/lang/invoke/MethodHandle" ∧ yX0_moveTies.cls ≠ "java/lang/invoke/VarHandle" ∧ (parseMethodDescriptor yX0_moveTies.desc).map (fun d => d.parameters.length) = some 3 := by decide +kernel
abbrev iX0_put : zMI := (RX0, cX0_put, 6, none, 1, 24)
theorem hy_X0_put : yX0_put.cls ≠ "java/lang/invoke/MethodHandle" ∧ yX0_put.cls ≠ "java/lang/invoke/VarHandle" ∧ (parseMethodDescriptor yX0_put.desc).map (fun d => d.parameters.length) = some 3 := by decide +kernel
abbrev iX0_isTieOf : zMI := (RX0, cX0_isTieOf, 4, (some .boolean), 0, 0)
theorem hy_X0_isTieOf : yX0_isTieOf.cls ≠ "java/lang/invoke/MethodHandle" ∧ yX0_isTieOf.cls ≠ "java/lang/invoke/VarHandle" ∧ (parseMethodDescriptor yX0_isTieOf.desc).map (fun d => d.parameters.length) = some 3 := by decide +kernel
abbrev iX0_dropTie : zMI := (RX0, cX0_dropTie, 3, none, 0, 0)
theorem hy_X0_dropTie : yX0_dropTie.cls ≠ "java/lang/invoke/MethodHandle" ∧ yX0_dropTie.cls ≠ "java/lang/invoke/VarHandle" ∧ (parseMethodDescriptor yX0_dropTie.desc).map (fun d => d.parameters.length) = some 1 := by decide +kernel
abbrev iX0_drop : zMI := (RX0, cX0_drop, 5, none, 2, 42)
theorem hy_X0_drop : yX0_drop.cls ≠ "java/lang/invoke/MethodHandle" ∧ yX0_drop.cls ≠ "java/lang/invoke/VarHandle" ∧ (parseMethodDescriptor yX0_drop.desc).map (fun d => d.parameters.length) = some 2 := by decide +kernel
abbrev iX0_swap : zMI := (RX0, cX0_swap, 3, none, 0, 0)
theorem hy_X0_swap : yX0_swap.cls ≠ "java/lang/invoke/MethodHandle" ∧ yX0_swap.cls ≠ "java/lang/invoke/VarHandle" ∧ (parseMethodDescriptor yX0_swap.desc).map (fun d => d.parameters.length) = some 0 := by decide +kernel
abbrev iX0_isTied : zMI := (RX0, cX0_isTied, 4, (some .boolean), 1, 23)
theorem hy_X0_isTied : yX0_isTied.cls ≠ "java/lang/invoke/MethodHandle" ∧ yX0_isTied.cls ≠ "java/lang/invoke/VarHandle" ∧ (parseMethodDescriptor yX0_isTied.desc).map (fun d => d.parameters.length) = some 2 := by decide +kernel
abbrev iX0_addTie : zMI := (RX0, cX0_addTie, 4, none, 0, 0)
theorem hy_X0_addTie : yX0_addTie.cls ≠ "java/lang/invoke/MethodHandle" ∧ yX0_addTie.cls ≠ "java/lang/invoke/VarHandle" ∧ (parseMethodDescriptor yX0_addTie.desc).map (fun d => d.parameters.length) = some 3 := by decide +kernel
abbrev iX0_dropTiesOf : zMI := (RX0, cX0_dropTiesOf, 3, none, 1, 22)
theorem hy_X0_dropTiesOf : yX0_dropTiesOf.cls ≠ "java/lang/invoke/MethodHandle" ∧ yX0_dropTiesOf.cls ≠ "java/lang/invoke/VarHandle" ∧ (parseMethodDescriptor yX0_dropTiesOf.desc).map (fun d => d.parameters.length) = some 1 := by decide +kernel
abbrev iX1_mark : zMI := (RX1, cX1_mark, 2, none, 2, 90)
theorem hy_X1_mark : yX1_mark.cls ≠ "java/lang/invoke/MethodHandle" ∧ yX1_mark.cls ≠ "java/lang/invoke/VarHandle" ∧ (parseMethodDescriptor yX1_mark.desc).map (fun d => d.parameters.length) = some 1 := by decide +kernel
abbrev iX1_remember : zMI := (RX1, cX1_remember, 1, none, 1, 21)
theorem hy_X1_remember : yX1_remember.cls ≠ "java/lang/invoke/MethodHandle" ∧ yX1_remember.cls ≠ "java/lang/invoke/VarHandle" ∧ (parseMethodDescriptor yX1_remember.desc).map (fun d => d.parameters.length) = some 0 := by decide +kernel
abbrev iX1_takeBack : zMI := (RX1, cX1_takeBack, 2, (some .boolean), 2, 90)
theorem hy_X1_takeBack : yX1_takeBack.cls ≠ "java/lang/invoke/MethodHandle" ∧ yX1_takeBack.cls ≠ "java/lang/invoke/VarHandle" ∧ (parseMethodDescriptor yX1_takeBack.desc).map (fun d => d.parameters.length) = some 1 := by decide +kernel
abbrev iX1_forget : zMI := (RX1, cX1_forget, 1, none, 0, 0)
theorem hy_X1_forget : yX1_forget.cls ≠ "java/lang/invoke/MethodHandle" ∧ yX1_forget.cls ≠ "java/lang/invoke/VarHandle" ∧ (parseMethodDescriptor yX1_forget.desc).map (fun d => d.parameters.length) = some 0 := by decide +kernel
abbrev iX2_clear : zMI := (RX2, cX2_clear, 1, none, 0, 0)
theorem hy_X2_clear : yX2_clear.cls ≠ "java/lang/invoke/MethodHandle" ∧ yX2_clear.cls ≠ "java/lang/invoke/VarHandle" ∧ (parseMethodDescriptor yX2_clear.desc).map (fun d => d.parameters.length) = some 0 := by decide +kernel
abbrev iX2_tell : zMI := (RX2, cX2_tell, 3, none, 0, 0)
theorem hy_X2_tell : yX2_tell.cls ≠ "java/lang/invoke/MethodHandle" ∧ yX2_tell.cls ≠ "java/lang/invoke/VarHandle" ∧ (parseMethodDescriptor yX2_tell.desc).map (fun d => d.parameters.length) = some 1 := by decide +kernel
abbrev iX2_tell_ : zMI := (RX2, cX2_tell_, 5, none, 1, 22)
theorem hy_X2_tell_ : yX2_tell_.cls ≠ "java/lang/invoke/MethodHandle" ∧ yX2_tell_.cls ≠ "java/lang/invoke/VarHandle" ∧ (parseMethodDescriptor yX2_tell_.desc).map (fun d => d.parameters.length) = some 2 := by decide +kernel
abbrev iX2_tell__ : zMI := (RX2, cX2_tell__, 7, none, 2, 46)
theorem hy_X2_tell__ : yX2_tell__.cls ≠ "java/lang/invoke/MethodHandle" ∧ yX2_tell__.cls ≠ "java/lang/invoke/VarHandle" ∧ (parseMethodDescriptor yX2_tell__.desc).map (fun d => d.parameters.length) = some 3 := by decide +kernel
abbrev iX2_tell___ : zMI := (RX2, cX2_tell___, 9, none, 3, 72)
theorem hy_X2_tell___ : yX2_tell___.cls ≠ "java/lang/invoke/MethodHandle" ∧ yX2_tell___.cls ≠ "java/lang/invoke/VarHandle" ∧ (parseMethodDescriptor yX2_tell___.desc).map (fun d => d.parameters.length) = some 4 := by decide +kernel
abbrev iX2_noughts : zMI := (RX2, cX2_noughts, 3, none, 1, 21)
theorem hy_X2_noughts : yX2_noughts.cls ≠ "java/lang/invoke/MethodHandle" ∧ yX2_noughts.cls ≠ "java/lang/invoke/VarHandle" ∧ (parseMethodDescriptor yX2_noughts.desc).map (fun d => d.parameters.length) = some 1 := by decide +kernel
abbrev iX2_put : zMI := (RX2, cX2_put, 5, none, 1, 21)
theorem hy_X2_put : yX2_put.cls ≠ "java/lang/invoke/MethodHandle" ∧ yX2_put.cls ≠ "java/lang/invoke/VarHandle" ∧ (parseMethodDescriptor yX2_put.desc).map (fun d => d.parameters.length) = some 3 := by decide +kernel
abbrev iX3_note : zMI := (RX3, cX3_note, 3, none, 0, 0)
theorem hy_X3_note : yX3_note.cls ≠ "java/lang/invoke/MethodHandle" ∧ yX3_note.cls ≠ "java/lang/invoke/VarHandle" ∧ (parseMethodDescriptor yX3_note.desc).map (fun d => d.parameters.length) = some 2 := by decide +kernel
abbrev iX4_isLeft : zMI := (RX4, cX4_isLeft, 3, (some .boolean), 0, 0)
theorem hy_X4_isLeft : yX4_isLeft.cls ≠ "java/lang/invoke/MethodHandle" ∧ yX4_isLeft.cls ≠ "java/lang/invoke/VarHandle" ∧ (parseMethodDescriptor yX4_isLeft.desc).map (fun d => d.parameters.length) = some 2 := by decide +kernel
abbrev iX4_takePart : zMI := (RX4, cX4_takePart, 13, none, 0, 0)
theorem hy_X4_takePart : yX4_takePart.cls ≠ "java/lang/invoke/MethodHandle" ∧ yX4_takePart.cls ≠ "java/lang/invoke/VarHandle" ∧ (parseMethodDescriptor yX4_takePart.desc).map (fun d => d.parameters.length) = some 5 := by decide +kernel
abbrev iX4_setLine : zMI := (RX4, cX4_setLine, 11, none, 1, 32)
theorem hy_X4_setLine : yX4_setLine.cls ≠ "java/lang/invoke/MethodHandle" ∧ yX4_setLine.cls ≠ "java/lang/invoke/VarHandle" ∧ (parseMethodDescriptor yX4_setLine.desc).map (fun d => d.parameters.length) = some 3 := by decide +kernel
abbrev iX4_set : zMI := (RX4, cX4_set, 4, none, 2, 62)
theorem hy_X4_set : yX4_set.cls ≠ "java/lang/invoke/MethodHandle" ∧ yX4_set.cls ≠ "java/lang/invoke/VarHandle" ∧ (parseMethodDescriptor yX4_set.desc).map (fun d => d.parameters.length) = some 1 := by decide +kernel
abbrev iX4_endOf : zMI := (RX4, cX4_endOf, 4, (some .int), 0, 0)
theorem hy_X4_endOf : yX4_endOf.cls ≠ "java/lang/invoke/MethodHandle" ∧ yX4_endOf.cls ≠ "java/lang/invoke/VarHandle" ∧ (parseMethodDescriptor yX4_endOf.desc).map (fun d => d.parameters.length) = some 2 := by decide +kernel
abbrev iX4_endsApart : zMI := (RX4, cX4_endsApart, 6, (some .int), 1, 23)
theorem hy_X4_endsApart : yX4_endsApart.cls ≠ "java/lang/invoke/MethodHandle" ∧ yX4_endsApart.cls ≠ "java/lang/invoke/VarHandle" ∧ (parseMethodDescriptor yX4_endsApart.desc).map (fun d => d.parameters.length) = some 1 := by decide +kernel
abbrev iX4_deepOf : zMI := (RX4, cX4_deepOf, 3, (some .int), 0, 0)
theorem hy_X4_deepOf : yX4_deepOf.cls ≠ "java/lang/invoke/MethodHandle" ∧ yX4_deepOf.cls ≠ "java/lang/invoke/VarHandle" ∧ (parseMethodDescriptor yX4_deepOf.desc).map (fun d => d.parameters.length) = some 2 := by decide +kernel
abbrev iX6_isBroken : zMI := (RX6, cX6_isBroken, 1, (some .boolean), 0, 0)
theorem hy_X6_isBroken : yX6_isBroken.cls ≠ "java/lang/invoke/MethodHandle" ∧ yX6_isBroken.cls ≠ "java/lang/invoke/VarHandle" ∧ (parseMethodDescriptor yX6_isBroken.desc).map (fun d => d.parameters.length) = some 1 := by decide +kernel
abbrev iX4_brokenTies : zMI := (RX4, cX4_brokenTies, 4, (some .int), 1, 22)
theorem hy_X4_brokenTies : yX4_brokenTies.cls ≠ "java/lang/invoke/MethodHandle" ∧ yX4_brokenTies.cls ≠ "java/lang/invoke/VarHandle" ∧ (parseMethodDescriptor yX4_brokenTies.desc).map (fun d => d.parameters.length) = some 1 := by decide +kernel
abbrev iX4_raggedInAll : zMI := (RX4, cX4_raggedInAll, 1, (some .int), 0, 0)
theorem hy_X4_raggedInAll : yX4_raggedInAll.cls ≠ "java/lang/invoke/MethodHandle" ∧ yX4_raggedInAll.cls ≠ "java/lang/invoke/VarHandle" ∧ (parseMethodDescriptor yX4_raggedInAll.desc).map (fun d => d.parameters.length) = some 0 := by decide +kernel
abbrev iX4_costOf : zMI := (RX4, cX4_costOf, 2, (some .int), 2, 48)
theorem hy_X4_costOf : yX4_costOf.cls ≠ "java/lang/invoke/MethodHandle" ∧ yX4_costOf.cls ≠ "java/lang/invoke/VarHandle" ∧ (parseMethodDescriptor yX4_costOf.desc).map (fun d => d.parameters.length) = some 1 := by decide +kernel
abbrev iX3_findBest : zMI := (RX3, cX3_findBest, 8, none, 3, 85)
theorem hy_X3_findBest : yX3_findBest.cls ≠ "java/lang/invoke/MethodHandle" ∧ yX3_findBest.cls ≠ "java/lang/invoke/VarHandle" ∧ (parseMethodDescriptor yX3_findBest.desc).map (fun d => d.parameters.length) = some 4 := by decide +kernel
abbrev iX3_findNear : zMI := (RX3, cX3_findNear, 8, none, 3, 85)
theorem hy_X3_findNear : yX3_findNear.cls ≠ "java/lang/invoke/MethodHandle" ∧ yX3_findNear.cls ≠ "java/lang/invoke/VarHandle" ∧ (parseMethodDescriptor yX3_findNear.desc).map (fun d => d.parameters.length) = some 5 := by decide +kernel
abbrev iX3_findBetter : zMI := (RX3, cX3_findBetter, 12, (some .boolean), 3, 85)
theorem hy_X3_findBetter : yX3_findBetter.cls ≠ "java/lang/invoke/MethodHandle" ∧ yX3_findBetter.cls ≠ "java/lang/invoke/VarHandle" ∧ (parseMethodDescriptor yX3_findBetter.desc).map (fun d => d.parameters.length) = some 2 := by decide +kernel
abbrev iX3_climb : zMI := (RX3, cX3_climb, 4, (some .int), 4, 116)
theorem hy_X3_climb : yX3_climb.cls ≠ "java/lang/invoke/MethodHandle" ∧ yX3_climb.cls ≠ "java/lang/invoke/VarHandle" ∧ (parseMethodDescriptor yX3_climb.desc).map (fun d => d.parameters.length) = some 2 := by decide +kernel
abbrev iX4_pageCount : zMI := (RX4, cX4_pageCount, 2, (some .int), 1, 21)
theorem hy_X4_pageCount : yX4_pageCount.cls ≠ "java/lang/invoke/MethodHandle" ∧ yX4_pageCount.cls ≠ "java/lang/invoke/VarHandle" ∧ (parseMethodDescriptor yX4_pageCount.desc).map (fun d => d.parameters.length) = some 1 := by decide +kernel
abbrev iX4_takenAt : zMI := (RX4, cX4_takenAt, 3, (some .int), 0, 0)
theorem hy_X4_takenAt : yX4_takenAt.cls ≠ "java/lang/invoke/MethodHandle" ∧ yX4_takenAt.cls ≠ "java/lang/invoke/VarHandle" ∧ (parseMethodDescriptor yX4_takenAt.desc).map (fun d => d.parameters.length) = some 2 := by decide +kernel
abbrev iX4_columnOf : zMI := (RX4, cX4_columnOf, 12, (some .int), 1, 21)
theorem hy_X4_columnOf : yX4_columnOf.cls ≠ "java/lang/invoke/MethodHandle" ∧ yX4_columnOf.cls ≠ "java/lang/invoke/VarHandle" ∧ (parseMethodDescriptor yX4_columnOf.desc).map (fun d => d.parameters.length) = some 3 := by decide +kernel
abbrev iX4_firstToEnd : zMI := (RX4, cX4_firstToEnd, 4, (some .int), 1, 23)
theorem hy_X4_firstToEnd : yX4_firstToEnd.cls ≠ "java/lang/invoke/MethodHandle" ∧ yX4_firstToEnd.cls ≠ "java/lang/invoke/VarHandle" ∧ (parseMethodDescriptor yX4_firstToEnd.desc).map (fun d => d.parameters.length) = some 1 := by decide +kernel
abbrev iX4_lastToEnd : zMI := (RX4, cX4_lastToEnd, 4, (some .int), 1, 23)
theorem hy_X4_lastToEnd : yX4_lastToEnd.cls ≠ "java/lang/invoke/MethodHandle" ∧ yX4_lastToEnd.cls ≠ "java/lang/invoke/VarHandle" ∧ (parseMethodDescriptor yX4_lastToEnd.desc).map (fun d => d.parameters.length) = some 1 := by decide +kernel
abbrev iX4_lettersFrom : zMI := (RX4, cX4_lettersFrom, 6, (some .int), 0, 0)
theorem hy_X4_lettersFrom : yX4_lettersFrom.cls ≠ "java/lang/invoke/MethodHandle" ∧ yX4_lettersFrom.cls ≠ "java/lang/invoke/VarHandle" ∧ (parseMethodDescriptor yX4_lettersFrom.desc).map (fun d => d.parameters.length) = some 2 := by decide +kernel
abbrev iX5_add : zMI := (RX5, cX5_add, 3, (some .boolean), 0, 0)
theorem hy_X5_add : yX5_add.cls ≠ "java/lang/invoke/MethodHandle" ∧ yX5_add.cls ≠ "java/lang/invoke/VarHandle" ∧ (parseMethodDescriptor yX5_add.desc).map (fun d => d.parameters.length) = some 1 := by decide +kernel
abbrev iX5_cut : zMI := (RX5, cX5_cut, 2, (some .boolean), 0, 0)
theorem hy_X5_cut : yX5_cut.cls ≠ "java/lang/invoke/MethodHandle" ∧ yX5_cut.cls ≠ "java/lang/invoke/VarHandle" ∧ (parseMethodDescriptor yX5_cut.desc).map (fun d => d.parameters.length) = some 1 := by decide +kernel
abbrev iX5_clear : zMI := (RX5, cX5_clear, 1, none, 0, 0)
theorem hy_X5_clear : yX5_clear.cls ≠ "java/lang/invoke/MethodHandle" ∧ yX5_clear.cls ≠ "java/lang/invoke/VarHandle" ∧ (parseMethodDescriptor yX5_clear.desc).map (fun d => d.parameters.length) = some 0 := by decide +kernel
abbrev iX5_signAt : zMI := (RX5, cX5_signAt, 2, (some .int), 0, 0)
theorem hy_X5_signAt : yX5_signAt.cls ≠ "java/lang/invoke/MethodHandle" ∧ yX5_signAt.cls ≠ "java/lang/invoke/VarHandle" ∧ (parseMethodDescriptor yX5_signAt.desc).map (fun d => d.parameters.length) = some 1 := by decide +kernel
abbrev iX5_digitAt : zMI := (RX5, cX5_digitAt, 3, (some .int), 1, 21)
theorem hy_X5_digitAt : yX5_digitAt.cls ≠ "java/lang/invoke/MethodHandle" ∧ yX5_digitAt.cls ≠ "java/lang/invoke/VarHandle" ∧ (parseMethodDescriptor yX5_digitAt.desc).map (fun d => d.parameters.length) = some 1 := by decide +kernel
abbrev iX5_numberAt : zMI := (RX5, cX5_numberAt, 6, (some .int), 2, 43)
theorem hy_X5_numberAt : yX5_numberAt.cls ≠ "java/lang/invoke/MethodHandle" ∧ yX5_numberAt.cls ≠ "java/lang/invoke/VarHandle" ∧ (parseMethodDescriptor yX5_numberAt.desc).map (fun d => d.parameters.length) = some 2 := by decide +kernel
abbrev iX6_sign : zMI := (RX6, cX6_sign, 2, (some .int), 1, 22)
theorem hy_X6_sign : yX6_sign.cls ≠ "java/lang/invoke/MethodHandle" ∧ yX6_sign.cls ≠ "java/lang/invoke/VarHandle" ∧ (parseMethodDescriptor yX6_sign.desc).map (fun d => d.parameters.length) = some 1 := by decide +kernel
abbrev iX6_end : zMI := (RX6, cX6_end, 2, (some .boolean), 1, 21)
theorem hy_X6_end : yX6_end.cls ≠ "java/lang/invoke/MethodHandle" ∧ yX6_end.cls ≠ "java/lang/invoke/VarHandle" ∧ (parseMethodDescriptor yX6_end.desc).map (fun d => d.parameters.length) = some 1 := by decide +kernel
abbrev iX6_readWords : zMI := (RX6, cX6_readWords, 3, (some .int), 3, 65)
theorem hy_X6_readWords : yX6_readWords.cls ≠ "java/lang/invoke/MethodHandle" ∧ yX6_readWords.cls ≠ "java/lang/invoke/VarHandle" ∧ (parseMethodDescriptor yX6_readWords.desc).map (fun d => d.parameters.length) = some 1 := by decide +kernel
abbrev iX6_remembered : zMI := (RX6, cX6_remembered, 2, (some .int), 2, 41)
theorem hy_X6_remembered : yX6_remembered.cls ≠ "java/lang/invoke/MethodHandle" ∧ yX6_remembered.cls ≠ "java/lang/invoke/VarHandle" ∧ (parseMethodDescriptor yX6_remembered.desc).map (fun d => d.parameters.length) = some 1 := by decide +kernel
abbrev iX6_words : zMI := (RX6, cX6_words, 3, (some .int), 4, 111)
theorem hy_X6_words : yX6_words.cls ≠ "java/lang/invoke/MethodHandle" ∧ yX6_words.cls ≠ "java/lang/invoke/VarHandle" ∧ (parseMethodDescriptor yX6_words.desc).map (fun d => d.parameters.length) = some 1 := by decide +kernel
abbrev iX6_readTie : zMI := (RX6, cX6_readTie, 6, (some .int), 3, 68)
theorem hy_X6_readTie : yX6_readTie.cls ≠ "java/lang/invoke/MethodHandle" ∧ yX6_readTie.cls ≠ "java/lang/invoke/VarHandle" ∧ (parseMethodDescriptor yX6_readTie.desc).map (fun d => d.parameters.length) = some 1 := by decide +kernel
abbrev iX6_readTies : zMI := (RX6, cX6_readTies, 3, (some .int), 4, 93)
theorem hy_X6_readTies : yX6_readTies.cls ≠ "java/lang/invoke/MethodHandle" ∧ yX6_readTies.cls ≠ "java/lang/invoke/VarHandle" ∧ (parseMethodDescriptor yX6_readTies.desc).map (fun d => d.parameters.length) = some 0 := by decide +kernel
abbrev iX6_ties : zMI := (RX6, cX6_ties, 2, (some .int), 5, 115)
theorem hy_X6_ties : yX6_ties.cls ≠ "java/lang/invoke/MethodHandle" ∧ yX6_ties.cls ≠ "java/lang/invoke/VarHandle" ∧ (parseMethodDescriptor yX6_ties.desc).map (fun d => d.parameters.length) = some 0 := by decide +kernel
abbrev iX6_entry : zMI := (RX6, cX6_entry, 5, (some .int), 0, 0)
theorem hy_X6_entry : yX6_entry.cls ≠ "java/lang/invoke/MethodHandle" ∧ yX6_entry.cls ≠ "java/lang/invoke/VarHandle" ∧ (parseMethodDescriptor yX6_entry.desc).map (fun d => d.parameters.length) = some 4 := by decide +kernel
abbrev iX6_isSize : zMI := (RX6, cX6_isSize, 1, (some .boolean), 0, 0)
theorem hy_X6_isSize : yX6_isSize.cls ≠ "java/lang/invoke/MethodHandle" ∧ yX6_isSize.cls ≠ "java/lang/invoke/VarHandle" ∧ (parseMethodDescriptor yX6_isSize.desc).map (fun d => d.parameters.length) = some 1 := by decide +kernel
abbrev iX6_sheet : zMI := (RX6, cX6_sheet, 9, (some .int), 3, 65)
theorem hy_X6_sheet : yX6_sheet.cls ≠ "java/lang/invoke/MethodHandle" ∧ yX6_sheet.cls ≠ "java/lang/invoke/VarHandle" ∧ (parseMethodDescriptor yX6_sheet.desc).map (fun d => d.parameters.length) = some 6 := by decide +kernel
abbrev iX6_pages : zMI := (RX6, cX6_pages, 2, (some .int), 3, 85)
theorem hy_X6_pages : yX6_pages.cls ≠ "java/lang/invoke/MethodHandle" ∧ yX6_pages.cls ≠ "java/lang/invoke/VarHandle" ∧ (parseMethodDescriptor yX6_pages.desc).map (fun d => d.parameters.length) = some 0 := by decide +kernel
abbrev iX6_placeOf : zMI := (RX6, cX6_placeOf, 3, (some .int), 3, 85)
theorem hy_X6_placeOf : yX6_placeOf.cls ≠ "java/lang/invoke/MethodHandle" ∧ yX6_placeOf.cls ≠ "java/lang/invoke/VarHandle" ∧ (parseMethodDescriptor yX6_placeOf.desc).map (fun d => d.parameters.length) = some 2 := by decide +kernel
abbrev iX6_part : zMI := (RX6, cX6_part, 6, (some .int), 4, 107)
theorem hy_X6_part : yX6_part.cls ≠ "java/lang/invoke/MethodHandle" ∧ yX6_part.cls ≠ "java/lang/invoke/VarHandle" ∧ (parseMethodDescriptor yX6_part.desc).map (fun d => d.parameters.length) = some 3 := by decide +kernel
abbrev iX6_word : zMI := (RX6, cX6_word, 5, (some .int), 6, 89)
theorem hy_X6_word : yX6_word.cls ≠ "java/lang/invoke/MethodHandle" ∧ yX6_word.cls ≠ "java/lang/invoke/VarHandle" ∧ (parseMethodDescriptor yX6_word.desc).map (fun d => d.parameters.length) = some 3 := by decide +kernel
abbrev iX6_at : zMI := (RX6, cX6_at, 10, (some .int), 4, 107)
theorem hy_X6_at : yX6_at.cls ≠ "java/lang/invoke/MethodHandle" ∧ yX6_at.cls ≠ "java/lang/invoke/VarHandle" ∧ (parseMethodDescriptor yX6_at.desc).map (fun d => d.parameters.length) = some 3 := by decide +kernel
abbrev iX6_ends : zMI := (RX6, cX6_ends, 2, (some .int), 3, 85)
theorem hy_X6_ends : yX6_ends.cls ≠ "java/lang/invoke/MethodHandle" ∧ yX6_ends.cls ≠ "java/lang/invoke/VarHandle" ∧ (parseMethodDescriptor yX6_ends.desc).map (fun d => d.parameters.length) = some 1 := by decide +kernel
abbrev iX6_apart : zMI := (RX6, cX6_apart, 1, (some .int), 3, 85)
theorem hy_X6_apart : yX6_apart.cls ≠ "java/lang/invoke/MethodHandle" ∧ yX6_apart.cls ≠ "java/lang/invoke/VarHandle" ∧ (parseMethodDescriptor yX6_apart.desc).map (fun d => d.parameters.length) = some 0 := by decide +kernel
abbrev iX6_ragged : zMI := (RX6, cX6_ragged, 6, (some .int), 4, 100)
theorem hy_X6_ragged : yX6_ragged.cls ≠ "java/lang/invoke/MethodHandle" ∧ yX6_ragged.cls ≠ "java/lang/invoke/VarHandle" ∧ (parseMethodDescriptor yX6_ragged.desc).map (fun d => d.parameters.length) = some 0 := by decide +kernel
abbrev iX6_cost : zMI := (RX6, cX6_cost, 1, (some .int), 3, 85)
theorem hy_X6_cost : yX6_cost.cls ≠ "java/lang/invoke/MethodHandle" ∧ yX6_cost.cls ≠ "java/lang/invoke/VarHandle" ∧ (parseMethodDescriptor yX6_cost.desc).map (fun d => d.parameters.length) = some 0 := by decide +kernel
abbrev iX6_line : zMI := (RX6, cX6_line, 9, (some .int), 4, 107)
theorem hy_X6_line : yX6_line.cls ≠ "java/lang/invoke/MethodHandle" ∧ yX6_line.cls ≠ "java/lang/invoke/VarHandle" ∧ (parseMethodDescriptor yX6_line.desc).map (fun d => d.parameters.length) = some 2 := by decide +kernel
abbrev iX6_blank : zMI := (RX6, cX6_blank, 3, (some .int), 3, 85)
theorem hy_X6_blank : yX6_blank.cls ≠ "java/lang/invoke/MethodHandle" ∧ yX6_blank.cls ≠ "java/lang/invoke/VarHandle" ∧ (parseMethodDescriptor yX6_blank.desc).map (fun d => d.parameters.length) = some 0 := by decide +kernel
abbrev iX6_tie : zMI := (RX6, cX6_tie, 3, (some .int), 6, 100)
theorem hy_X6_tie : yX6_tie.cls ≠ "java/lang/invoke/MethodHandle" ∧ yX6_tie.cls ≠ "java/lang/invoke/VarHandle" ∧ (parseMethodDescriptor yX6_tie.desc).map (fun d => d.parameters.length) = some 1 := by decide +kernel
abbrev iX6_broken : zMI := (RX6, cX6_broken, 5, (some .int), 3, 85)
theorem hy_X6_broken : yX6_broken.cls ≠ "java/lang/invoke/MethodHandle" ∧ yX6_broken.cls ≠ "java/lang/invoke/VarHandle" ∧ (parseMethodDescriptor yX6_broken.desc).map (fun d => d.parameters.length) = some 0 := by decide +kernel
abbrev iX6_loose : zMI := (RX6, cX6_loose, 4, (some .int), 2, 46)
theorem hy_X6_loose : yX6_loose.cls ≠ "java/lang/invoke/MethodHandle" ∧ yX6_loose.cls ≠ "java/lang/invoke/VarHandle" ∧ (parseMethodDescriptor yX6_loose.desc).map (fun d => d.parameters.length) = some 0 := by decide +kernel
abbrev iX6_by : zMI := (RX6, cX6_by, 4, (some .int), 4, 100)
theorem hy_X6_by : yX6_by.cls ≠ "java/lang/invoke/MethodHandle" ∧ yX6_by.cls ≠ "java/lang/invoke/VarHandle" ∧ (parseMethodDescriptor yX6_by.desc).map (fun d => d.parameters.length) = some 3 := by decide +kernel
abbrev iX6_isGrid : zMI := (RX6, cX6_isGrid, 2, (some .boolean), 0, 0)
theorem hy_X6_isGrid : yX6_isGrid.cls ≠ "java/lang/invoke/MethodHandle" ∧ yX6_isGrid.cls ≠ "java/lang/invoke/VarHandle" ∧ (parseMethodDescriptor yX6_isGrid.desc).map (fun d => d.parameters.length) = some 2 := by decide +kernel
abbrev iX6_best : zMI := (RX6, cX6_best, 3, (some .int), 4, 112)
theorem hy_X6_best : yX6_best.cls ≠ "java/lang/invoke/MethodHandle" ∧ yX6_best.cls ≠ "java/lang/invoke/VarHandle" ∧ (parseMethodDescriptor yX6_best.desc).map (fun d => d.parameters.length) = some 2 := by decide +kernel
abbrev iX6_near : zMI := (RX6, cX6_near, 4, (some .int), 4, 112)
theorem hy_X6_near : yX6_near.cls ≠ "java/lang/invoke/MethodHandle" ∧ yX6_near.cls ≠ "java/lang/invoke/VarHandle" ∧ (parseMethodDescriptor yX6_near.desc).map (fun d => d.parameters.length) = some 3 := by decide +kernel
abbrev iX6_climbs : zMI := (RX6, cX6_climbs, 2, (some .int), 5, 139)
theorem hy_X6_climbs : yX6_climbs.cls ≠ "java/lang/invoke/MethodHandle" ∧ yX6_climbs.cls ≠ "java/lang/invoke/VarHandle" ∧ (parseMethodDescriptor yX6_climbs.desc).map (fun d => d.parameters.length) = some 0 := by decide +kernel
abbrev iX6_leastMeasure : zMI := (RX6, cX6_leastMeasure, 5, (some .int), 3, 90)
theorem hy_X6_leastMeasure : yX6_leastMeasure.cls ≠ "java/lang/invoke/MethodHandle" ∧ yX6_leastMeasure.cls ≠ "java/lang/invoke/VarHandle" ∧ (parseMethodDescriptor yX6_leastMeasure.desc).map (fun d => d.parameters.length) = some 2 := by decide +kernel
abbrev iX6_narrow : zMI := (RX6, cX6_narrow, 2, (some .int), 4, 114)
theorem hy_X6_narrow : yX6_narrow.cls ≠ "java/lang/invoke/MethodHandle" ∧ yX6_narrow.cls ≠ "java/lang/invoke/VarHandle" ∧ (parseMethodDescriptor yX6_narrow.desc).map (fun d => d.parameters.length) = some 1 := by decide +kernel
abbrev iX6_low : zMI := (RX6, cX6_low, 2, (some .int), 4, 114)
theorem hy_X6_low : yX6_low.cls ≠ "java/lang/invoke/MethodHandle" ∧ yX6_low.cls ≠ "java/lang/invoke/VarHandle" ∧ (parseMethodDescriptor yX6_low.desc).map (fun d => d.parameters.length) = some 1 := by decide +kernel
abbrev iX6_putWord : zMI := (RX6, cX6_putWord, 4, (some .int), 2, 49)
theorem hy_X6_putWord : yX6_putWord.cls ≠ "java/lang/invoke/MethodHandle" ∧ yX6_putWord.cls ≠ "java/lang/invoke/VarHandle" ∧ (parseMethodDescriptor yX6_putWord.desc).map (fun d => d.parameters.length) = some 4 := by decide +kernel
abbrev iX6_trialCost : zMI := (RX6, cX6_trialCost, 1, (some .int), 3, 85)
theorem hy_X6_trialCost : yX6_trialCost.cls ≠ "java/lang/invoke/MethodHandle" ∧ yX6_trialCost.cls ≠ "java/lang/invoke/VarHandle" ∧ (parseMethodDescriptor yX6_trialCost.desc).map (fun d => d.parameters.length) = some 0 := by decide +kernel
abbrev iX6_more : zMI := (RX6, cX6_more, 5, (some .int), 4, 105)
theorem hy_X6_more : yX6_more.cls ≠ "java/lang/invoke/MethodHandle" ∧ yX6_more.cls ≠ "java/lang/invoke/VarHandle" ∧ (parseMethodDescriptor yX6_more.desc).map (fun d => d.parameters.length) = some 3 := by decide +kernel
abbrev iX6_dropWord : zMI := (RX6, cX6_dropWord, 3, (some .int), 3, 66)
theorem hy_X6_dropWord : yX6_dropWord.cls ≠ "java/lang/invoke/MethodHandle" ∧ yX6_dropWord.cls ≠ "java/lang/invoke/VarHandle" ∧ (parseMethodDescriptor yX6_dropWord.desc).map (fun d => d.parameters.length) = some 3 := by decide +kernel
abbrev iX6_less : zMI := (RX6, cX6_less, 4, (some .int), 4, 105)
theorem hy_X6_less : yX6_less.cls ≠ "java/lang/invoke/MethodHandle" ∧ yX6_less.cls ≠ "java/lang/invoke/VarHandle" ∧ (parseMethodDescriptor yX6_less.desc).map (fun d => d.parameters.length) = some 2 := by decide +kernel
abbrev iX6_spare : zMI := (RX6, cX6_spare, 6, (some .int), 3, 90)
theorem hy_X6_spare : yX6_spare.cls ≠ "java/lang/invoke/MethodHandle" ∧ yX6_spare.cls ≠ "java/lang/invoke/VarHandle" ∧ (parseMethodDescriptor yX6_spare.desc).map (fun d => d.parameters.length) = some 1 := by decide +kernel
abbrev iX6_setMeasure : zMI := (RX6, cX6_setMeasure, 4, (some .int), 2, 43)
theorem hy_X6_setMeasure : yX6_setMeasure.cls ≠ "java/lang/invoke/MethodHandle" ∧ yX6_setMeasure.cls ≠ "java/lang/invoke/VarHandle" ∧ (parseMethodDescriptor yX6_setMeasure.desc).map (fun d => d.parameters.length) = some 2 := by decide +kernel
abbrev iX6_sets : zMI := (RX6, cX6_sets, 3, (some .int), 3, 111)
theorem hy_X6_sets : yX6_sets.cls ≠ "java/lang/invoke/MethodHandle" ∧ yX6_sets.cls ≠ "java/lang/invoke/VarHandle" ∧ (parseMethodDescriptor yX6_sets.desc).map (fun d => d.parameters.length) = some 2 := by decide +kernel
abbrev iX6_weighs : zMI := (RX6, cX6_weighs, 4, (some .int), 3, 111)
theorem hy_X6_weighs : yX6_weighs.cls ≠ "java/lang/invoke/MethodHandle" ∧ yX6_weighs.cls ≠ "java/lang/invoke/VarHandle" ∧ (parseMethodDescriptor yX6_weighs.desc).map (fun d => d.parameters.length) = some 2 := by decide +kernel
abbrev iX6_swapComments : zMI := (RX6, cX6_swapComments, 1, (some .int), 1, 22)
theorem hy_X6_swapComments : yX6_swapComments.cls ≠ "java/lang/invoke/MethodHandle" ∧ yX6_swapComments.cls ≠ "java/lang/invoke/VarHandle" ∧ (parseMethodDescriptor yX6_swapComments.desc).map (fun d => d.parameters.length) = some 0 := by decide +kernel
abbrev iX6_swaps : zMI := (RX6, cX6_swaps, 1, (some .int), 3, 111)
theorem hy_X6_swaps : yX6_swaps.cls ≠ "java/lang/invoke/MethodHandle" ∧ yX6_swaps.cls ≠ "java/lang/invoke/VarHandle" ∧ (parseMethodDescriptor yX6_swaps.desc).map (fun d => d.parameters.length) = some 0 := by decide +kernel
abbrev iX6_setPlan : zMI := (RX6, cX6_setPlan, 5, (some .int), 1, 23)
theorem hy_X6_setPlan : yX6_setPlan.cls ≠ "java/lang/invoke/MethodHandle" ∧ yX6_setPlan.cls ≠ "java/lang/invoke/VarHandle" ∧ (parseMethodDescriptor yX6_setPlan.desc).map (fun d => d.parameters.length) = some 3 := by decide +kernel
abbrev iX6_plans : zMI := (RX6, cX6_plans, 4, (some .int), 3, 111)
theorem hy_X6_plans : yX6_plans.cls ≠ "java/lang/invoke/MethodHandle" ∧ yX6_plans.cls ≠ "java/lang/invoke/VarHandle" ∧ (parseMethodDescriptor yX6_plans.desc).map (fun d => d.parameters.length) = some 3 := by decide +kernel
abbrev iX6_setBest : zMI := (RX6, cX6_setBest, 3, (some .int), 4, 112)
theorem hy_X6_setBest : yX6_setBest.cls ≠ "java/lang/invoke/MethodHandle" ∧ yX6_setBest.cls ≠ "java/lang/invoke/VarHandle" ∧ (parseMethodDescriptor yX6_setBest.desc).map (fun d => d.parameters.length) = some 2 := by decide +kernel
abbrev iX6_takesBest : zMI := (RX6, cX6_takesBest, 3, (some .int), 5, 134)
theorem hy_X6_takesBest : yX6_takesBest.cls ≠ "java/lang/invoke/MethodHandle" ∧ yX6_takesBest.cls ≠ "java/lang/invoke/VarHandle" ∧ (parseMethodDescriptor yX6_takesBest.desc).map (fun d => d.parameters.length) = some 2 := by decide +kernel
abbrev iX6_comes : zMI := (RX6, cX6_comes, 4, (some .int), 3, 111)
theorem hy_X6_comes : yX6_comes.cls ≠ "java/lang/invoke/MethodHandle" ∧ yX6_comes.cls ≠ "java/lang/invoke/VarHandle" ∧ (parseMethodDescriptor yX6_comes.desc).map (fun d => d.parameters.length) = some 3 := by decide +kernel
abbrev iX6_goes : zMI := (RX6, cX6_goes, 3, (some .int), 4, 111)
theorem hy_X6_goes : yX6_goes.cls ≠ "java/lang/invoke/MethodHandle" ∧ yX6_goes.cls ≠ "java/lang/invoke/VarHandle" ∧ (parseMethodDescriptor yX6_goes.desc).map (fun d => d.parameters.length) = some 2 := by decide +kernel
abbrev iX6_digitsOf : zMI := (RX6, cX6_digitsOf, 1, (some .int), 0, 0)
theorem hy_X6_digitsOf : yX6_digitsOf.cls ≠ "java/lang/invoke/MethodHandle" ∧ yX6_digitsOf.cls ≠ "java/lang/invoke/VarHandle" ∧ (parseMethodDescriptor yX6_digitsOf.desc).map (fun d => d.parameters.length) = some 1 := by decide +kernel
abbrev iX6_faultOfDay : zMI := (RX6, cX6_faultOfDay, 4, (some .int), 3, 68)
theorem hy_X6_faultOfDay : yX6_faultOfDay.cls ≠ "java/lang/invoke/MethodHandle" ∧ yX6_faultOfDay.cls ≠ "java/lang/invoke/VarHandle" ∧ (parseMethodDescriptor yX6_faultOfDay.desc).map (fun d => d.parameters.length) = some 0 := by decide +kernel
abbrev iX6_doAct : zMI := (RX6, cX6_doAct, 2, (some .int), 5, 134)
theorem hy_X6_doAct : yX6_doAct.cls ≠ "java/lang/invoke/MethodHandle" ∧ yX6_doAct.cls ≠ "java/lang/invoke/VarHandle" ∧ (parseMethodDescriptor yX6_doAct.desc).map (fun d => d.parameters.length) = some 1 := by decide +kernel
abbrev iX6_day : zMI := (RX6, cX6_day, 5, (some .int), 6, 155)
theorem hy_X6_day : yX6_day.cls ≠ "java/lang/invoke/MethodHandle" ∧ yX6_day.cls ≠ "java/lang/invoke/VarHandle" ∧ (parseMethodDescriptor yX6_day.desc).map (fun d => d.parameters.length) = some 0 := by decide +kernel
abbrev iX6_undo : zMI := (RX6, cX6_undo, 1, (some .int), 3, 111)
theorem hy_X6_undo : yX6_undo.cls ≠ "java/lang/invoke/MethodHandle" ∧ yX6_undo.cls ≠ "java/lang/invoke/VarHandle" ∧ (parseMethodDescriptor yX6_undo.desc).map (fun d => d.parameters.length) = some 0 := by decide +kernel
abbrev iX6_nextDraw : zMI := (RX6, cX6_nextDraw, 1, (some .int), 0, 0)
theorem hy_X6_nextDraw : yX6_nextDraw.cls ≠ "java/lang/invoke/MethodHandle" ∧ yX6_nextDraw.cls ≠ "java/lang/invoke/VarHandle" ∧ (parseMethodDescriptor yX6_nextDraw.desc).map (fun d => d.parameters.length) = some 1 := by decide +kernel
abbrev iX6_drawn : zMI := (RX6, cX6_drawn, 2, (some .int), 0, 0)
theorem hy_X6_drawn : yX6_drawn.cls ≠ "java/lang/invoke/MethodHandle" ∧ yX6_drawn.cls ≠ "java/lang/invoke/VarHandle" ∧ (parseMethodDescriptor yX6_drawn.desc).map (fun d => d.parameters.length) = some 2 := by decide +kernel
abbrev iX6_years : zMI := (RX6, cX6_years, 7, (some .int), 4, 100)
theorem hy_X6_years : yX6_years.cls ≠ "java/lang/invoke/MethodHandle" ∧ yX6_years.cls ≠ "java/lang/invoke/VarHandle" ∧ (parseMethodDescriptor yX6_years.desc).map (fun d => d.parameters.length) = some 2 := by decide +kernel
abbrev iX6_keep : zMI := (RX6, cX6_keep, 2, (some .boolean), 2, 90)
theorem hy_X6_keep : yX6_keep.cls ≠ "java/lang/invoke/MethodHandle" ∧ yX6_keep.cls ≠ "java/lang/invoke/VarHandle" ∧ (parseMethodDescriptor yX6_keep.desc).map (fun d => d.parameters.length) = some 1 := by decide +kernel
abbrev iX6_again : zMI := (RX6, cX6_again, 2, (some .boolean), 2, 90)
theorem hy_X6_again : yX6_again.cls ≠ "java/lang/invoke/MethodHandle" ∧ yX6_again.cls ≠ "java/lang/invoke/VarHandle" ∧ (parseMethodDescriptor yX6_again.desc).map (fun d => d.parameters.length) = some 1 := by decide +kernel
abbrev iX6_count : zMI := (RX6, cX6_count, 2, (some .int), 0, 0)
theorem hy_X6_count : yX6_count.cls ≠ "java/lang/invoke/MethodHandle" ∧ yX6_count.cls ≠ "java/lang/invoke/VarHandle" ∧ (parseMethodDescriptor yX6_count.desc).map (fun d => d.parameters.length) = some 1 := by decide +kernel
abbrev iX6_row : zMI := (RX6, cX6_row, 2, (some .long), 6, 89)
theorem hy_X6_row : yX6_row.cls ≠ "java/lang/invoke/MethodHandle" ∧ yX6_row.cls ≠ "java/lang/invoke/VarHandle" ∧ (parseMethodDescriptor yX6_row.desc).map (fun d => d.parameters.length) = some 1 := by decide +kernel
abbrev iX7_thrown : zMI := (RX7, cX7_thrown, 1, (some .int), 0, 0)
theorem hy_X7_thrown : yX7_thrown.cls ≠ "java/lang/invoke/MethodHandle" ∧ yX7_thrown.cls ≠ "java/lang/invoke/VarHandle" ∧ (parseMethodDescriptor yX7_thrown.desc).map (fun d => d.parameters.length) = some 0 := by decide +kernel
abbrev iX7_in : zMI := (RX7, cX7_in, 3, (some .boolean), 0, 0)
theorem hy_X7_in : yX7_in.cls ≠ "java/lang/invoke/MethodHandle" ∧ yX7_in.cls ≠ "java/lang/invoke/VarHandle" ∧ (parseMethodDescriptor yX7_in.desc).map (fun d => d.parameters.length) = some 3 := by decide +kernel
abbrev iX7_lost : zMI := (RX7, cX7_lost, 1, (some .int), 0, 0)
theorem hy_X7_lost : yX7_lost.cls ≠ "java/lang/invoke/MethodHandle" ∧ yX7_lost.cls ≠ "java/lang/invoke/VarHandle" ∧ (parseMethodDescriptor yX7_lost.desc).map (fun d => d.parameters.length) = some 0 := by decide +kernel
abbrev iX7_tell : zMI := (RX7, cX7_tell, 3, none, 0, 0)
theorem hy_X7_tell : yX7_tell.cls ≠ "java/lang/invoke/MethodHandle" ∧ yX7_tell.cls ≠ "java/lang/invoke/VarHandle" ∧ (parseMethodDescriptor yX7_tell.desc).map (fun d => d.parameters.length) = some 1 := by decide +kernel
abbrev iX7_isText : zMI := (RX7, cX7_isText, 1, (some .boolean), 1, 22)
theorem hy_X7_isText : yX7_isText.cls ≠ "java/lang/invoke/MethodHandle" ∧ yX7_isText.cls ≠ "java/lang/invoke/VarHandle" ∧ (parseMethodDescriptor yX7_isText.desc).map (fun d => d.parameters.length) = some 1 := by decide +kernel
abbrev iX7_isWord : zMI := (RX7, cX7_isWord, 3, (some .boolean), 2, 42)
theorem hy_X7_isWord : yX7_isWord.cls ≠ "java/lang/invoke/MethodHandle" ∧ yX7_isWord.cls ≠ "java/lang/invoke/VarHandle" ∧ (parseMethodDescriptor yX7_isWord.desc).map (fun d => d.parameters.length) = some 2 := by decide +kernel
abbrev iX7_size : zMI := (RX7, cX7_size, 3, (some .int), 0, 0)
theorem hy_X7_size : yX7_size.cls ≠ "java/lang/invoke/MethodHandle" ∧ yX7_size.cls ≠ "java/lang/invoke/VarHandle" ∧ (parseMethodDescriptor yX7_size.desc).map (fun d => d.parameters.length) = some 2 := by decide +kernel
abbrev iX7_tied : zMI := (RX7, cX7_tied, 3, (some .int), 0, 0)
theorem hy_X7_tied : yX7_tied.cls ≠ "java/lang/invoke/MethodHandle" ∧ yX7_tied.cls ≠ "java/lang/invoke/VarHandle" ∧ (parseMethodDescriptor yX7_tied.desc).map (fun d => d.parameters.length) = some 2 := by decide +kernel
abbrev iX7_sign : zMI := (RX7, cX7_sign, 3, (some .int), 0, 0)
theorem hy_X7_sign : yX7_sign.cls ≠ "java/lang/invoke/MethodHandle" ∧ yX7_sign.cls ≠ "java/lang/invoke/VarHandle" ∧ (parseMethodDescriptor yX7_sign.desc).map (fun d => d.parameters.length) = some 1 := by decide +kernel
abbrev iX7_end : zMI := (RX7, cX7_end, 2, (some .boolean), 1, 22)
theorem hy_X7_end : yX7_end.cls ≠ "java/lang/invoke/MethodHandle" ∧ yX7_end.cls ≠ "java/lang/invoke/VarHandle" ∧ (parseMethodDescriptor yX7_end.desc).map (fun d => d.parameters.length) = some 1 := by decide +kernel
abbrev iX7_begin : zMI := (RX7, cX7_begin, 1, none, 0, 0)
theorem hy_X7_begin : yX7_begin.cls ≠ "java/lang/invoke/MethodHandle" ∧ yX7_begin.cls ≠ "java/lang/invoke/VarHandle" ∧ (parseMethodDescriptor yX7_begin.desc).map (fun d => d.parameters.length) = some 0 := by decide +kernel
abbrev iX7_here : zMI := (RX7, cX7_here, 1, (some .int), 0, 0)
theorem hy_X7_here : yX7_here.cls ≠ "java/lang/invoke/MethodHandle" ∧ yX7_here.cls ≠ "java/lang/invoke/VarHandle" ∧ (parseMethodDescriptor yX7_here.desc).map (fun d => d.parameters.length) = some 0 := by decide +kernel
abbrev iX7_fine : zMI := (RX7, cX7_fine, 1, (some .boolean), 0, 0)
theorem hy_X7_fine : yX7_fine.cls ≠ "java/lang/invoke/MethodHandle" ∧ yX7_fine.cls ≠ "java/lang/invoke/VarHandle" ∧ (parseMethodDescriptor yX7_fine.desc).map (fun d => d.parameters.length) = some 0 := by decide +kernel
abbrev iX7_fault : zMI := (RX7, cX7_fault, 2, none, 1, 20)
theorem hy_X7_fault : yX7_fault.cls ≠ "java/lang/invoke/MethodHandle" ∧ yX7_fault.cls ≠ "java/lang/invoke/VarHandle" ∧ (parseMethodDescriptor yX7_fault.desc).map (fun d => d.parameters.length) = some 1 := by decide +kernel
abbrev iX7_oneOf : zMI := (RX7, cX7_oneOf, 3, (some .int), 2, 41)
theorem hy_X7_oneOf : yX7_oneOf.cls ≠ "java/lang/invoke/MethodHandle" ∧ yX7_oneOf.cls ≠ "java/lang/invoke/VarHandle" ∧ (parseMethodDescriptor yX7_oneOf.desc).map (fun d => d.parameters.length) = some 2 := by decide +kernel
abbrev iX7_digits : zMI := (RX7, cX7_digits, 4, (some .int), 3, 63)
theorem hy_X7_digits : yX7_digits.cls ≠ "java/lang/invoke/MethodHandle" ∧ yX7_digits.cls ≠ "java/lang/invoke/VarHandle" ∧ (parseMethodDescriptor yX7_digits.desc).map (fun d => d.parameters.length) = some 1 := by decide +kernel
abbrev iX7_wasRight : zMI := (RX7, cX7_wasRight, 1, (some .boolean), 2, 41)
theorem hy_X7_wasRight : yX7_wasRight.cls ≠ "java/lang/invoke/MethodHandle" ∧ yX7_wasRight.cls ≠ "java/lang/invoke/VarHandle" ∧ (parseMethodDescriptor yX7_wasRight.desc).map (fun d => d.parameters.length) = some 0 := by decide +kernel
abbrev iX7_lay : zMI := (RX7, cX7_lay, 2, none, 0, 0)
theorem hy_X7_lay : yX7_lay.cls ≠ "java/lang/invoke/MethodHandle" ∧ yX7_lay.cls ≠ "java/lang/invoke/VarHandle" ∧ (parseMethodDescriptor yX7_lay.desc).map (fun d => d.parameters.length) = some 0 := by decide +kernel
abbrev iX7_note : zMI := (RX7, cX7_note, 2, none, 0, 0)
theorem hy_X7_note : yX7_note.cls ≠ "java/lang/invoke/MethodHandle" ∧ yX7_note.cls ≠ "java/lang/invoke/VarHandle" ∧ (parseMethodDescriptor yX7_note.desc).map (fun d => d.parameters.length) = some 0 := by decide +kernel
abbrev iX7_change : zMI := (RX7, cX7_change, 1, none, 1, 21)
theorem hy_X7_change : yX7_change.cls ≠ "java/lang/invoke/MethodHandle" ∧ yX7_change.cls ≠ "java/lang/invoke/VarHandle" ∧ (parseMethodDescriptor yX7_change.desc).map (fun d => d.parameters.length) = some 0 := by decide +kernel
abbrev iX7_untie : zMI := (RX7, cX7_untie, 3, none, 0, 0)
theorem hy_X7_untie : yX7_untie.cls ≠ "java/lang/invoke/MethodHandle" ∧ yX7_untie.cls ≠ "java/lang/invoke/VarHandle" ∧ (parseMethodDescriptor yX7_untie.desc).map (fun d => d.parameters.length) = some 1 := by decide +kernel
abbrev iX7_words : zMI := (RX7, cX7_words, 4, (some .int), 3, 63)
theorem hy_X7_words : yX7_words.cls ≠ "java/lang/invoke/MethodHandle" ∧ yX7_words.cls ≠ "java/lang/invoke/VarHandle" ∧ (parseMethodDescriptor yX7_words.desc).map (fun d => d.parameters.length) = some 1 := by decide +kernel
abbrev iX7_wasTied : zMI := (RX7, cX7_wasTied, 5, (some .boolean), 0, 0)
theorem hy_X7_wasTied : yX7_wasTied.cls ≠ "java/lang/invoke/MethodHandle" ∧ yX7_wasTied.cls ≠ "java/lang/invoke/VarHandle" ∧ (parseMethodDescriptor yX7_wasTied.desc).map (fun d => d.parameters.length) = some 3 := by decide +kernel
abbrev iX7_readTie : zMI := (RX7, cX7_readTie, 5, none, 4, 86)
theorem hy_X7_readTie : yX7_readTie.cls ≠ "java/lang/invoke/MethodHandle" ∧ yX7_readTie.cls ≠ "java/lang/invoke/VarHandle" ∧ (parseMethodDescriptor yX7_readTie.desc).map (fun d => d.parameters.length) = some 1 := by decide +kernel
abbrev iX7_ties : zMI := (RX7, cX7_ties, 3, (some .int), 5, 110)
theorem hy_X7_ties : yX7_ties.cls ≠ "java/lang/invoke/MethodHandle" ∧ yX7_ties.cls ≠ "java/lang/invoke/VarHandle" ∧ (parseMethodDescriptor yX7_ties.desc).map (fun d => d.parameters.length) = some 0 := by decide +kernel
abbrev iX7_entryOf : zMI := (RX7, cX7_entryOf, 5, (some .int), 0, 0)
theorem hy_X7_entryOf : yX7_entryOf.cls ≠ "java/lang/invoke/MethodHandle" ∧ yX7_entryOf.cls ≠ "java/lang/invoke/VarHandle" ∧ (parseMethodDescriptor yX7_entryOf.desc).map (fun d => d.parameters.length) = some 4 := by decide +kernel
abbrev iX7_sheet : zMI := (RX7, cX7_sheet, 11, (some .int), 2, 42)
theorem hy_X7_sheet : yX7_sheet.cls ≠ "java/lang/invoke/MethodHandle" ∧ yX7_sheet.cls ≠ "java/lang/invoke/VarHandle" ∧ (parseMethodDescriptor yX7_sheet.desc).map (fun d => d.parameters.length) = some 6 := by decide +kernel
abbrev iX7_isLeft : zMI := (RX7, cX7_isLeft, 2, (some .boolean), 0, 0)
theorem hy_X7_isLeft : yX7_isLeft.cls ≠ "java/lang/invoke/MethodHandle" ∧ yX7_isLeft.cls ≠ "java/lang/invoke/VarHandle" ∧ (parseMethodDescriptor yX7_isLeft.desc).map (fun d => d.parameters.length) = some 1 := by decide +kernel
abbrev iX7_areLeft : zMI := (RX7, cX7_areLeft, 1, (some .boolean), 1, 21)
theorem hy_X7_areLeft : yX7_areLeft.cls ≠ "java/lang/invoke/MethodHandle" ∧ yX7_areLeft.cls ≠ "java/lang/invoke/VarHandle" ∧ (parseMethodDescriptor yX7_areLeft.desc).map (fun d => d.parameters.length) = some 0 := by decide +kernel
abbrev iX7_setPart : zMI := (RX7, cX7_setPart, 10, none, 1, 22)
theorem hy_X7_setPart : yX7_setPart.cls ≠ "java/lang/invoke/MethodHandle" ∧ yX7_setPart.cls ≠ "java/lang/invoke/VarHandle" ∧ (parseMethodDescriptor yX7_setPart.desc).map (fun d => d.parameters.length) = some 5 := by decide +kernel
abbrev iX7_setLine : zMI := (RX7, cX7_setLine, 10, none, 2, 51)
theorem hy_X7_setLine : yX7_setLine.cls ≠ "java/lang/invoke/MethodHandle" ∧ yX7_setLine.cls ≠ "java/lang/invoke/VarHandle" ∧ (parseMethodDescriptor yX7_setLine.desc).map (fun d => d.parameters.length) = some 2 := by decide +kernel
abbrev iX7_set : zMI := (RX7, cX7_set, 2, none, 3, 80)
theorem hy_X7_set : yX7_set.cls ≠ "java/lang/invoke/MethodHandle" ∧ yX7_set.cls ≠ "java/lang/invoke/VarHandle" ∧ (parseMethodDescriptor yX7_set.desc).map (fun d => d.parameters.length) = some 0 := by decide +kernel
abbrev iX7_partAt : zMI := (RX7, cX7_partAt, 5, (some .int), 0, 0)
theorem hy_X7_partAt : yX7_partAt.cls ≠ "java/lang/invoke/MethodHandle" ∧ yX7_partAt.cls ≠ "java/lang/invoke/VarHandle" ∧ (parseMethodDescriptor yX7_partAt.desc).map (fun d => d.parameters.length) = some 3 := by decide +kernel
abbrev iX7_told : zMI := (RX7, cX7_told, 3, (some .int), 0, 0)
theorem hy_X7_told : yX7_told.cls ≠ "java/lang/invoke/MethodHandle" ∧ yX7_told.cls ≠ "java/lang/invoke/VarHandle" ∧ (parseMethodDescriptor yX7_told.desc).map (fun d => d.parameters.length) = some 2 := by decide +kernel
abbrev iX7_pages : zMI := (RX7, cX7_pages, 1, (some .int), 4, 101)
theorem hy_X7_pages : yX7_pages.cls ≠ "java/lang/invoke/MethodHandle" ∧ yX7_pages.cls ≠ "java/lang/invoke/VarHandle" ∧ (parseMethodDescriptor yX7_pages.desc).map (fun d => d.parameters.length) = some 0 := by decide +kernel
abbrev iX7_isLine : zMI := (RX7, cX7_isLine, 3, (some .boolean), 1, 22)
theorem hy_X7_isLine : yX7_isLine.cls ≠ "java/lang/invoke/MethodHandle" ∧ yX7_isLine.cls ≠ "java/lang/invoke/VarHandle" ∧ (parseMethodDescriptor yX7_isLine.desc).map (fun d => d.parameters.length) = some 2 := by decide +kernel
abbrev iX7_part : zMI := (RX7, cX7_part, 5, (some .int), 4, 101)
theorem hy_X7_part : yX7_part.cls ≠ "java/lang/invoke/MethodHandle" ∧ yX7_part.cls ≠ "java/lang/invoke/VarHandle" ∧ (parseMethodDescriptor yX7_part.desc).map (fun d => d.parameters.length) = some 3 := by decide +kernel
abbrev iX7_isLastPart : zMI := (RX7, cX7_isLastPart, 2, (some .boolean), 1, 22)
theorem hy_X7_isLastPart : yX7_isLastPart.cls ≠ "java/lang/invoke/MethodHandle" ∧ yX7_isLastPart.cls ≠ "java/lang/invoke/VarHandle" ∧ (parseMethodDescriptor yX7_isLastPart.desc).map (fun d => d.parameters.length) = some 1 := by decide +kernel
abbrev iX7_columnOf : zMI := (RX7, cX7_columnOf, 10, (some .int), 2, 43)
theorem hy_X7_columnOf : yX7_columnOf.cls ≠ "java/lang/invoke/MethodHandle" ∧ yX7_columnOf.cls ≠ "java/lang/invoke/VarHandle" ∧ (parseMethodDescriptor yX7_columnOf.desc).map (fun d => d.parameters.length) = some 2 := by decide +kernel
abbrev iX7_word : zMI := (RX7, cX7_word, 5, (some .int), 4, 101)
theorem hy_X7_word : yX7_word.cls ≠ "java/lang/invoke/MethodHandle" ∧ yX7_word.cls ≠ "java/lang/invoke/VarHandle" ∧ (parseMethodDescriptor yX7_word.desc).map (fun d => d.parameters.length) = some 3 := by decide +kernel
abbrev iX7_at : zMI := (RX7, cX7_at, 9, (some .int), 4, 101)
theorem hy_X7_at : yX7_at.cls ≠ "java/lang/invoke/MethodHandle" ∧ yX7_at.cls ≠ "java/lang/invoke/VarHandle" ∧ (parseMethodDescriptor yX7_at.desc).map (fun d => d.parameters.length) = some 3 := by decide +kernel
abbrev iX7_line : zMI := (RX7, cX7_line, 10, (some .int), 4, 101)
theorem hy_X7_line : yX7_line.cls ≠ "java/lang/invoke/MethodHandle" ∧ yX7_line.cls ≠ "java/lang/invoke/VarHandle" ∧ (parseMethodDescriptor yX7_line.desc).map (fun d => d.parameters.length) = some 2 := by decide +kernel
abbrev iX7_placeOf : zMI := (RX7, cX7_placeOf, 4, (some .int), 1, 22)
theorem hy_X7_placeOf : yX7_placeOf.cls ≠ "java/lang/invoke/MethodHandle" ∧ yX7_placeOf.cls ≠ "java/lang/invoke/VarHandle" ∧ (parseMethodDescriptor yX7_placeOf.desc).map (fun d => d.parameters.length) = some 2 := by decide +kernel
abbrev iX7_endOf : zMI := (RX7, cX7_endOf, 2, (some .int), 2, 45)
theorem hy_X7_endOf : yX7_endOf.cls ≠ "java/lang/invoke/MethodHandle" ∧ yX7_endOf.cls ≠ "java/lang/invoke/VarHandle" ∧ (parseMethodDescriptor yX7_endOf.desc).map (fun d => d.parameters.length) = some 1 := by decide +kernel
abbrev iX7_ends : zMI := (RX7, cX7_ends, 5, (some .int), 4, 101)
theorem hy_X7_ends : yX7_ends.cls ≠ "java/lang/invoke/MethodHandle" ∧ yX7_ends.cls ≠ "java/lang/invoke/VarHandle" ∧ (parseMethodDescriptor yX7_ends.desc).map (fun d => d.parameters.length) = some 1 := by decide +kernel
abbrev iX7_ender : zMI := (RX7, cX7_ender, 4, (some .int), 3, 66)
theorem hy_X7_ender : yX7_ender.cls ≠ "java/lang/invoke/MethodHandle" ∧ yX7_ender.cls ≠ "java/lang/invoke/VarHandle" ∧ (parseMethodDescriptor yX7_ender.desc).map (fun d => d.parameters.length) = some 1 := by decide +kernel
abbrev iX7_apartOf : zMI := (RX7, cX7_apartOf, 1, (some .int), 4, 89)
theorem hy_X7_apartOf : yX7_apartOf.cls ≠ "java/lang/invoke/MethodHandle" ∧ yX7_apartOf.cls ≠ "java/lang/invoke/VarHandle" ∧ (parseMethodDescriptor yX7_apartOf.desc).map (fun d => d.parameters.length) = some 0 := by decide +kernel
abbrev iX7_apart : zMI := (RX7, cX7_apart, 1, (some .int), 5, 109)
theorem hy_X7_apart : yX7_apart.cls ≠ "java/lang/invoke/MethodHandle" ∧ yX7_apart.cls ≠ "java/lang/invoke/VarHandle" ∧ (parseMethodDescriptor yX7_apart.desc).map (fun d => d.parameters.length) = some 0 := by decide +kernel
abbrev iX7_raggedAll : zMI := (RX7, cX7_raggedAll, 3, (some .int), 1, 22)
theorem hy_X7_raggedAll : yX7_raggedAll.cls ≠ "java/lang/invoke/MethodHandle" ∧ yX7_raggedAll.cls ≠ "java/lang/invoke/VarHandle" ∧ (parseMethodDescriptor yX7_raggedAll.desc).map (fun d => d.parameters.length) = some 0 := by decide +kernel
abbrev iX7_isAhead : zMI := (RX7, cX7_isAhead, 3, (some .boolean), 1, 22)
theorem hy_X7_isAhead : yX7_isAhead.cls ≠ "java/lang/invoke/MethodHandle" ∧ yX7_isAhead.cls ≠ "java/lang/invoke/VarHandle" ∧ (parseMethodDescriptor yX7_isAhead.desc).map (fun d => d.parameters.length) = some 2 := by decide +kernel
abbrev iX7_ragged : zMI := (RX7, cX7_ragged, 3, (some .int), 4, 101)
theorem hy_X7_ragged : yX7_ragged.cls ≠ "java/lang/invoke/MethodHandle" ∧ yX7_ragged.cls ≠ "java/lang/invoke/VarHandle" ∧ (parseMethodDescriptor yX7_ragged.desc).map (fun d => d.parameters.length) = some 0 := by decide +kernel
abbrev iX7_deepOf : zMI := (RX7, cX7_deepOf, 2, (some .int), 2, 45)
theorem hy_X7_deepOf : yX7_deepOf.cls ≠ "java/lang/invoke/MethodHandle" ∧ yX7_deepOf.cls ≠ "java/lang/invoke/VarHandle" ∧ (parseMethodDescriptor yX7_deepOf.desc).map (fun d => d.parameters.length) = some 1 := by decide +kernel
abbrev iX7_isBroken : zMI := (RX7, cX7_isBroken, 2, (some .boolean), 3, 66)
theorem hy_X7_isBroken : yX7_isBroken.cls ≠ "java/lang/invoke/MethodHandle" ∧ yX7_isBroken.cls ≠ "java/lang/invoke/VarHandle" ∧ (parseMethodDescriptor yX7_isBroken.desc).map (fun d => d.parameters.length) = some 1 := by decide +kernel
abbrev iX7_brokenMany : zMI := (RX7, cX7_brokenMany, 3, (some .int), 4, 87)
theorem hy_X7_brokenMany : yX7_brokenMany.cls ≠ "java/lang/invoke/MethodHandle" ∧ yX7_brokenMany.cls ≠ "java/lang/invoke/VarHandle" ∧ (parseMethodDescriptor yX7_brokenMany.desc).map (fun d => d.parameters.length) = some 0 := by decide +kernel
abbrev iX7_costOf : zMI := (RX7, cX7_costOf, 1, (some .int), 5, 109)
theorem hy_X7_costOf : yX7_costOf.cls ≠ "java/lang/invoke/MethodHandle" ∧ yX7_costOf.cls ≠ "java/lang/invoke/VarHandle" ∧ (parseMethodDescriptor yX7_costOf.desc).map (fun d => d.parameters.length) = some 0 := by decide +kernel
abbrev iX7_costNow : zMI := (RX7, cX7_costNow, 1, (some .int), 6, 129)
theorem hy_X7_costNow : yX7_costNow.cls ≠ "java/lang/invoke/MethodHandle" ∧ yX7_costNow.cls ≠ "java/lang/invoke/VarHandle" ∧ (parseMethodDescriptor yX7_costNow.desc).map (fun d => d.parameters.length) = some 0 := by decide +kernel
abbrev iX7_cost : zMI := (RX7, cX7_cost, 2, (some .int), 7, 149)
theorem hy_X7_cost : yX7_cost.cls ≠ "java/lang/invoke/MethodHandle" ∧ yX7_cost.cls ≠ "java/lang/invoke/VarHandle" ∧ (parseMethodDescriptor yX7_cost.desc).map (fun d => d.parameters.length) = some 0 := by decide +kernel
abbrev iX7_blank : zMI := (RX7, cX7_blank, 5, (some .int), 4, 101)
theorem hy_X7_blank : yX7_blank.cls ≠ "java/lang/invoke/MethodHandle" ∧ yX7_blank.cls ≠ "java/lang/invoke/VarHandle" ∧ (parseMethodDescriptor yX7_blank.desc).map (fun d => d.parameters.length) = some 0 := by decide +kernel
abbrev iX7_tie : zMI := (RX7, cX7_tie, 3, (some .int), 4, 101)
theorem hy_X7_tie : yX7_tie.cls ≠ "java/lang/invoke/MethodHandle" ∧ yX7_tie.cls ≠ "java/lang/invoke/VarHandle" ∧ (parseMethodDescriptor yX7_tie.desc).map (fun d => d.parameters.length) = some 1 := by decide +kernel
abbrev iX7_broken : zMI := (RX7, cX7_broken, 4, (some .int), 5, 109)
theorem hy_X7_broken : yX7_broken.cls ≠ "java/lang/invoke/MethodHandle" ∧ yX7_broken.cls ≠ "java/lang/invoke/VarHandle" ∧ (parseMethodDescriptor yX7_broken.desc).map (fun d => d.parameters.length) = some 0 := by decide +kernel
abbrev iX7_isLoose : zMI := (RX7, cX7_isLoose, 3, (some .boolean), 1, 22)
theorem hy_X7_isLoose : yX7_isLoose.cls ≠ "java/lang/invoke/MethodHandle" ∧ yX7_isLoose.cls ≠ "java/lang/invoke/VarHandle" ∧ (parseMethodDescriptor yX7_isLoose.desc).map (fun d => d.parameters.length) = some 1 := by decide +kernel
abbrev iX7_loose : zMI := (RX7, cX7_loose, 4, (some .int), 2, 44)
theorem hy_X7_loose : yX7_loose.cls ≠ "java/lang/invoke/MethodHandle" ∧ yX7_loose.cls ≠ "java/lang/invoke/VarHandle" ∧ (parseMethodDescriptor yX7_loose.desc).map (fun d => d.parameters.length) = some 0 := by decide +kernel
abbrev iX7_canPlan : zMI := (RX7, cX7_canPlan, 6, (some .boolean), 1, 22)
theorem hy_X7_canPlan : yX7_canPlan.cls ≠ "java/lang/invoke/MethodHandle" ∧ yX7_canPlan.cls ≠ "java/lang/invoke/VarHandle" ∧ (parseMethodDescriptor yX7_canPlan.desc).map (fun d => d.parameters.length) = some 6 := by decide +kernel
abbrev iX7_canBe : zMI := (RX7, cX7_canBe, 4, (some .boolean), 2, 47)
theorem hy_X7_canBe : yX7_canBe.cls ≠ "java/lang/invoke/MethodHandle" ∧ yX7_canBe.cls ≠ "java/lang/invoke/VarHandle" ∧ (parseMethodDescriptor yX7_canBe.desc).map (fun d => d.parameters.length) = some 3 := by decide +kernel
abbrev iX7_layAside : zMI := (RX7, cX7_layAside, 2, none, 0, 0)
theorem hy_X7_layAside : yX7_layAside.cls ≠ "java/lang/invoke/MethodHandle" ∧ yX7_layAside.cls ≠ "java/lang/invoke/VarHandle" ∧ (parseMethodDescriptor yX7_layAside.desc).map (fun d => d.parameters.length) = some 0 := by decide +kernel
abbrev iX7_comesBack : zMI := (RX7, cX7_comesBack, 2, none, 0, 0)
theorem hy_X7_comesBack : yX7_comesBack.cls ≠ "java/lang/invoke/MethodHandle" ∧ yX7_comesBack.cls ≠ "java/lang/invoke/VarHandle" ∧ (parseMethodDescriptor yX7_comesBack.desc).map (fun d => d.parameters.length) = some 0 := by decide +kernel
abbrev iX7_putPlan : zMI := (RX7, cX7_putPlan, 4, none, 0, 0)
theorem hy_X7_putPlan : yX7_putPlan.cls ≠ "java/lang/invoke/MethodHandle" ∧ yX7_putPlan.cls ≠ "java/lang/invoke/VarHandle" ∧ (parseMethodDescriptor yX7_putPlan.desc).map (fun d => d.parameters.length) = some 3 := by decide +kernel
abbrev iX7_by : zMI := (RX7, cX7_by, 5, (some .int), 7, 149)
theorem hy_X7_by : yX7_by.cls ≠ "java/lang/invoke/MethodHandle" ∧ yX7_by.cls ≠ "java/lang/invoke/VarHandle" ∧ (parseMethodDescriptor yX7_by.desc).map (fun d => d.parameters.length) = some 3 := by decide +kernel
abbrev iX7_tryPlan : zMI := (RX7, cX7_tryPlan, 4, none, 7, 149)
theorem hy_X7_tryPlan : yX7_tryPlan.cls ≠ "java/lang/invoke/MethodHandle" ∧ yX7_tryPlan.cls ≠ "java/lang/invoke/VarHandle" ∧ (parseMethodDescriptor yX7_tryPlan.desc).map (fun d => d.parameters.length) = some 1 := by decide +kernel
abbrev iX7_goGrid : zMI := (RX7, cX7_goGrid, 7, none, 8, 172)
theorem hy_X7_goGrid : yX7_goGrid.cls ≠ "java/lang/invoke/MethodHandle" ∧ yX7_goGrid.cls ≠ "java/lang/invoke/VarHandle" ∧ (parseMethodDescriptor yX7_goGrid.desc).map (fun d => d.parameters.length) = some 3 := by decide +kernel
abbrev iX7_isGrid : zMI := (RX7, cX7_isGrid, 2, (some .boolean), 1, 22)
theorem hy_X7_isGrid : yX7_isGrid.cls ≠ "java/lang/invoke/MethodHandle" ∧ yX7_isGrid.cls ≠ "java/lang/invoke/VarHandle" ∧ (parseMethodDescriptor yX7_isGrid.desc).map (fun d => d.parameters.length) = some 2 := by decide +kernel
abbrev iX7_best : zMI := (RX7, cX7_best, 4, (some .int), 9, 198)
theorem hy_X7_best : yX7_best.cls ≠ "java/lang/invoke/MethodHandle" ∧ yX7_best.cls ≠ "java/lang/invoke/VarHandle" ∧ (parseMethodDescriptor yX7_best.desc).map (fun d => d.parameters.length) = some 2 := by decide +kernel
abbrev iX7_near : zMI := (RX7, cX7_near, 5, (some .int), 9, 198)
theorem hy_X7_near : yX7_near.cls ≠ "java/lang/invoke/MethodHandle" ∧ yX7_near.cls ≠ "java/lang/invoke/VarHandle" ∧ (parseMethodDescriptor yX7_near.desc).map (fun d => d.parameters.length) = some 3 := by decide +kernel
abbrev iX7_stepFrom : zMI := (RX7, cX7_stepFrom, 13, (some .int), 7, 149)
theorem hy_X7_stepFrom : yX7_stepFrom.cls ≠ "java/lang/invoke/MethodHandle" ∧ yX7_stepFrom.cls ≠ "java/lang/invoke/VarHandle" ∧ (parseMethodDescriptor yX7_stepFrom.desc).map (fun d => d.parameters.length) = some 1 := by decide +kernel
abbrev iX7_climbs : zMI := (RX7, cX7_climbs, 4, (some .int), 8, 181)
theorem hy_X7_climbs : yX7_climbs.cls ≠ "java/lang/invoke/MethodHandle" ∧ yX7_climbs.cls ≠ "java/lang/invoke/VarHandle" ∧ (parseMethodDescriptor yX7_climbs.desc).map (fun d => d.parameters.length) = some 0 := by decide +kernel
abbrev iX7_leastBy : zMI := (RX7, cX7_leastBy, 7, (some .int), 4, 101)
theorem hy_X7_leastBy : yX7_leastBy.cls ≠ "java/lang/invoke/MethodHandle" ∧ yX7_leastBy.cls ≠ "java/lang/invoke/VarHandle" ∧ (parseMethodDescriptor yX7_leastBy.desc).map (fun d => d.parameters.length) = some 4 := by decide +kernel
abbrev iX7_narrow : zMI := (RX7, cX7_narrow, 2, (some .int), 5, 127)
theorem hy_X7_narrow : yX7_narrow.cls ≠ "java/lang/invoke/MethodHandle" ∧ yX7_narrow.cls ≠ "java/lang/invoke/VarHandle" ∧ (parseMethodDescriptor yX7_narrow.desc).map (fun d => d.parameters.length) = some 1 := by decide +kernel
abbrev iX7_low : zMI := (RX7, cX7_low, 2, (some .int), 5, 127)
theorem hy_X7_low : yX7_low.cls ≠ "java/lang/invoke/MethodHandle" ∧ yX7_low.cls ≠ "java/lang/invoke/VarHandle" ∧ (parseMethodDescriptor yX7_low.desc).map (fun d => d.parameters.length) = some 1 := by decide +kernel
abbrev iX7_shiftTies : zMI := (RX7, cX7_shiftTies, 6, none, 1, 22)
theorem hy_X7_shiftTies : yX7_shiftTies.cls ≠ "java/lang/invoke/MethodHandle" ∧ yX7_shiftTies.cls ≠ "java/lang/invoke/VarHandle" ∧ (parseMethodDescriptor yX7_shiftTies.desc).map (fun d => d.parameters.length) = some 3 := by decide +kernel
abbrev iX7_put : zMI := (RX7, cX7_put, 5, none, 2, 47)
theorem hy_X7_put : yX7_put.cls ≠ "java/lang/invoke/MethodHandle" ∧ yX7_put.cls ≠ "java/lang/invoke/VarHandle" ∧ (parseMethodDescriptor yX7_put.desc).map (fun d => d.parameters.length) = some 3 := by decide +kernel
abbrev iX7_drop : zMI := (RX7, cX7_drop, 4, none, 2, 47)
theorem hy_X7_drop : yX7_drop.cls ≠ "java/lang/invoke/MethodHandle" ∧ yX7_drop.cls ≠ "java/lang/invoke/VarHandle" ∧ (parseMethodDescriptor yX7_drop.desc).map (fun d => d.parameters.length) = some 2 := by decide +kernel
abbrev iX7_refusesWord : zMI := (RX7, cX7_refusesWord, 4, (some .int), 2, 42)
theorem hy_X7_refusesWord : yX7_refusesWord.cls ≠ "java/lang/invoke/MethodHandle" ∧ yX7_refusesWord.cls ≠ "java/lang/invoke/VarHandle" ∧ (parseMethodDescriptor yX7_refusesWord.desc).map (fun d => d.parameters.length) = some 3 := by decide +kernel
abbrev iX7_more : zMI := (RX7, cX7_more, 6, (some .int), 7, 149)
theorem hy_X7_more : yX7_more.cls ≠ "java/lang/invoke/MethodHandle" ∧ yX7_more.cls ≠ "java/lang/invoke/VarHandle" ∧ (parseMethodDescriptor yX7_more.desc).map (fun d => d.parameters.length) = some 3 := by decide +kernel
abbrev iX7_less : zMI := (RX7, cX7_less, 4, (some .int), 7, 149)
theorem hy_X7_less : yX7_less.cls ≠ "java/lang/invoke/MethodHandle" ∧ yX7_less.cls ≠ "java/lang/invoke/VarHandle" ∧ (parseMethodDescriptor yX7_less.desc).map (fun d => d.parameters.length) = some 2 := by decide +kernel
abbrev iX7_spare : zMI := (RX7, cX7_spare, 5, (some .int), 5, 109)
theorem hy_X7_spare : yX7_spare.cls ≠ "java/lang/invoke/MethodHandle" ∧ yX7_spare.cls ≠ "java/lang/invoke/VarHandle" ∧ (parseMethodDescriptor yX7_spare.desc).map (fun d => d.parameters.length) = some 1 := by decide +kernel
abbrev iX7_settingAt : zMI := (RX7, cX7_settingAt, 1, (some .int), 0, 0)
theorem hy_X7_settingAt : yX7_settingAt.cls ≠ "java/lang/invoke/MethodHandle" ∧ yX7_settingAt.cls ≠ "java/lang/invoke/VarHandle" ∧ (parseMethodDescriptor yX7_settingAt.desc).map (fun d => d.parameters.length) = some 1 := by decide +kernel
abbrev iX7_refusesSet : zMI := (RX7, cX7_refusesSet, 3, (some .int), 2, 47)
theorem hy_X7_refusesSet : yX7_refusesSet.cls ≠ "java/lang/invoke/MethodHandle" ∧ yX7_refusesSet.cls ≠ "java/lang/invoke/VarHandle" ∧ (parseMethodDescriptor yX7_refusesSet.desc).map (fun d => d.parameters.length) = some 2 := by decide +kernel
abbrev iX7_sets : zMI := (RX7, cX7_sets, 5, (some .int), 3, 69)
theorem hy_X7_sets : yX7_sets.cls ≠ "java/lang/invoke/MethodHandle" ∧ yX7_sets.cls ≠ "java/lang/invoke/VarHandle" ∧ (parseMethodDescriptor yX7_sets.desc).map (fun d => d.parameters.length) = some 2 := by decide +kernel
abbrev iX7_refusesPlan : zMI := (RX7, cX7_refusesPlan, 4, (some .int), 3, 70)
theorem hy_X7_refusesPlan : yX7_refusesPlan.cls ≠ "java/lang/invoke/MethodHandle" ∧ yX7_refusesPlan.cls ≠ "java/lang/invoke/VarHandle" ∧ (parseMethodDescriptor yX7_refusesPlan.desc).map (fun d => d.parameters.length) = some 3 := by decide +kernel
abbrev iX7_plans : zMI := (RX7, cX7_plans, 6, (some .int), 4, 93)
theorem hy_X7_plans : yX7_plans.cls ≠ "java/lang/invoke/MethodHandle" ∧ yX7_plans.cls ≠ "java/lang/invoke/VarHandle" ∧ (parseMethodDescriptor yX7_plans.desc).map (fun d => d.parameters.length) = some 3 := by decide +kernel
abbrev iX7_refusesBest : zMI := (RX7, cX7_refusesBest, 3, (some .int), 9, 198)
theorem hy_X7_refusesBest : yX7_refusesBest.cls ≠ "java/lang/invoke/MethodHandle" ∧ yX7_refusesBest.cls ≠ "java/lang/invoke/VarHandle" ∧ (parseMethodDescriptor yX7_refusesBest.desc).map (fun d => d.parameters.length) = some 2 := by decide +kernel
abbrev iX7_takesBest : zMI := (RX7, cX7_takesBest, 4, (some .int), 10, 220)
theorem hy_X7_takesBest : yX7_takesBest.cls ≠ "java/lang/invoke/MethodHandle" ∧ yX7_takesBest.cls ≠ "java/lang/invoke/VarHandle" ∧ (parseMethodDescriptor yX7_takesBest.desc).map (fun d => d.parameters.length) = some 2 := by decide +kernel
abbrev iX7_weighs : zMI := (RX7, cX7_weighs, 4, (some .int), 2, 41)
theorem hy_X7_weighs : yX7_weighs.cls ≠ "java/lang/invoke/MethodHandle" ∧ yX7_weighs.cls ≠ "java/lang/invoke/VarHandle" ∧ (parseMethodDescriptor yX7_weighs.desc).map (fun d => d.parameters.length) = some 2 := by decide +kernel
abbrev iX7_goSwap : zMI := (RX7, cX7_goSwap, 5, (some .boolean), 1, 22)
theorem hy_X7_goSwap : yX7_goSwap.cls ≠ "java/lang/invoke/MethodHandle" ∧ yX7_goSwap.cls ≠ "java/lang/invoke/VarHandle" ∧ (parseMethodDescriptor yX7_goSwap.desc).map (fun d => d.parameters.length) = some 0 := by decide +kernel
abbrev iX7_swaps : zMI := (RX7, cX7_swaps, 1, (some .int), 2, 46)
theorem hy_X7_swaps : yX7_swaps.cls ≠ "java/lang/invoke/MethodHandle" ∧ yX7_swaps.cls ≠ "java/lang/invoke/VarHandle" ∧ (parseMethodDescriptor yX7_swaps.desc).map (fun d => d.parameters.length) = some 0 := by decide +kernel
abbrev iX7_comes : zMI := (RX7, cX7_comes, 5, (some .int), 3, 71)
theorem hy_X7_comes : yX7_comes.cls ≠ "java/lang/invoke/MethodHandle" ∧ yX7_comes.cls ≠ "java/lang/invoke/VarHandle" ∧ (parseMethodDescriptor yX7_comes.desc).map (fun d => d.parameters.length) = some 3 := by decide +kernel
abbrev iX7_goes : zMI := (RX7, cX7_goes, 3, (some .int), 3, 70)
theorem hy_X7_goes : yX7_goes.cls ≠ "java/lang/invoke/MethodHandle" ∧ yX7_goes.cls ≠ "java/lang/invoke/VarHandle" ∧ (parseMethodDescriptor yX7_goes.desc).map (fun d => d.parameters.length) = some 2 := by decide +kernel
abbrev iJ0_isLatin1_aae02 : zMI := (RJ0, cJ0_isLatin1_aae02, 1, (some .boolean), 0, 0)
theorem hy_J0_isLatin1_aae02 : yJ0_isLatin1_aae02.cls ≠ "java/lang/invoke/MethodHandle" ∧ yJ0_isLatin1_aae02.cls ≠ "java/lang/invoke/VarHandle" ∧ (parseMethodDescriptor yJ0_isLatin1_aae02.desc).map (fun d => d.parameters.length) = some 0 := by decide +kernel
abbrev iJ0_coder_7d493 : zMI := (RJ0, cJ0_coder_7d493, 1, (some .byte), 0, 0)
theorem hy_J0_coder_7d493 : yJ0_coder_7d493.cls ≠ "java/lang/invoke/MethodHandle" ∧ yJ0_coder_7d493.cls ≠ "java/lang/invoke/VarHandle" ∧ (parseMethodDescriptor yJ0_coder_7d493.desc).map (fun d => d.parameters.length) = some 0 := by decide +kernel
abbrev iJ0_length_8abf5 : zMI := (RJ0, cJ0_length_8abf5, 1, (some .int), 1, 20)
theorem hy_J0_length_8abf5 : yJ0_length_8abf5.cls ≠ "java/lang/invoke/MethodHandle" ∧ yJ0_length_8abf5.cls ≠ "java/lang/invoke/VarHandle" ∧ (parseMethodDescriptor yJ0_length_8abf5.desc).map (fun d => d.parameters.length) = some 0 := by decide +kernel
abbrev iJ1_canEncode_9a6ad : zMI := (RJ1, cJ1_canEncode_9a6ad, 1, (some .boolean), 0, 0)
theorem hy_J1_canEncode_9a6ad : yJ1_canEncode_9a6ad.cls ≠ "java/lang/invoke/MethodHandle" ∧ yJ1_canEncode_9a6ad.cls ≠ "java/lang/invoke/VarHandle" ∧ (parseMethodDescriptor yJ1_canEncode_9a6ad.desc).map (fun d => d.parameters.length) = some 1 := by decide +kernel
abbrev iJ1_indexOfChar_4cfef : zMI := (RJ1, cJ1_indexOfChar_4cfef, 6, (some .int), 0, 0)
theorem hy_J1_indexOfChar_4cfef : yJ1_indexOfChar_4cfef.cls ≠ "java/lang/invoke/MethodHandle" ∧ yJ1_indexOfChar_4cfef.cls ≠ "java/lang/invoke/VarHandle" ∧ (parseMethodDescriptor yJ1_indexOfChar_4cfef.desc).map (fun d => d.parameters.length) = some 4 := by decide +kernel
abbrev iJ1_indexOf_4cfef : zMI := (RJ1, cJ1_indexOf_4cfef, 4, (some .int), 1, 25)
theorem hy_J1_indexOf_4cfef : yJ1_indexOf_4cfef.cls ≠ "java/lang/invoke/MethodHandle" ∧ yJ1_indexOf_4cfef.cls ≠ "java/lang/invoke/VarHandle" ∧ (parseMethodDescriptor yJ1_indexOf_4cfef.desc).map (fun d => d.parameters.length) = some 4 := by decide +kernel
abbrev iJ0_indexOf_7cf53 : zMI := (RJ0, cJ0_indexOf_7cf53, 3, (some .int), 2, 48)
theorem hy_J0_indexOf_7cf53 : yJ0_indexOf_7cf53.cls ≠ "java/lang/invoke/MethodHandle" ∧ yJ0_indexOf_7cf53.cls ≠ "java/lang/invoke/VarHandle" ∧ (parseMethodDescriptor yJ0_indexOf_7cf53.desc).map (fun d => d.parameters.length) = some 2 := by decide +kernel
abbrev iJ0_indexOf_0f7a4 : zMI := (RJ0, cJ0_indexOf_0f7a4, 2, (some .int), 3, 70)
theorem hy_J0_indexOf_0f7a4 : yJ0_indexOf_0f7a4.cls ≠ "java/lang/invoke/MethodHandle" ∧ yJ0_indexOf_0f7a4.cls ≠ "java/lang/invoke/VarHandle" ∧ (parseMethodDescriptor yJ0_indexOf_0f7a4.desc).map (fun d => d.parameters.length) = some 1 := by decide +kernel
abbrev iX7_readAct : zMI := (RX7, cX7_readAct, 4, none, 4, 91)
theorem hy_X7_readAct : yX7_readAct.cls ≠ "java/lang/invoke/MethodHandle" ∧ yX7_readAct.cls ≠ "java/lang/invoke/VarHandle" ∧ (parseMethodDescriptor yX7_readAct.desc).map (fun d => d.parameters.length) = some 1 := by decide +kernel
abbrev iX7_act : zMI := (RX7, cX7_act, 6, (some .boolean), 10, 220)
theorem hy_X7_act : yX7_act.cls ≠ "java/lang/invoke/MethodHandle" ∧ yX7_act.cls ≠ "java/lang/invoke/VarHandle" ∧ (parseMethodDescriptor yX7_act.desc).map (fun d => d.parameters.length) = some 1 := by decide +kernel
abbrev iX7_day : zMI := (RX7, cX7_day, 3, (some .int), 11, 245)
theorem hy_X7_day : yX7_day.cls ≠ "java/lang/invoke/MethodHandle" ∧ yX7_day.cls ≠ "java/lang/invoke/VarHandle" ∧ (parseMethodDescriptor yX7_day.desc).map (fun d => d.parameters.length) = some 0 := by decide +kernel
abbrev iX7_undo : zMI := (RX7, cX7_undo, 2, (some .int), 0, 0)
theorem hy_X7_undo : yX7_undo.cls ≠ "java/lang/invoke/MethodHandle" ∧ yX7_undo.cls ≠ "java/lang/invoke/VarHandle" ∧ (parseMethodDescriptor yX7_undo.desc).map (fun d => d.parameters.length) = some 0 := by decide +kernel
abbrev iX7_draw : zMI := (RX7, cX7_draw, 2, (some .int), 0, 0)
theorem hy_X7_draw : yX7_draw.cls ≠ "java/lang/invoke/MethodHandle" ∧ yX7_draw.cls ≠ "java/lang/invoke/VarHandle" ∧ (parseMethodDescriptor yX7_draw.desc).map (fun d => d.parameters.length) = some 1 := by decide +kernel
abbrev iX7_years : zMI := (RX7, cX7_years, 6, (some .int), 7, 149)
theorem hy_X7_years : yX7_years.cls ≠ "java/lang/invoke/MethodHandle" ∧ yX7_years.cls ≠ "java/lang/invoke/VarHandle" ∧ (parseMethodDescriptor yX7_years.desc).map (fun d => d.parameters.length) = some 2 := by decide +kernel
abbrev iX7_keep : zMI := (RX7, cX7_keep, 3, (some .boolean), 1, 22)
theorem hy_X7_keep : yX7_keep.cls ≠ "java/lang/invoke/MethodHandle" ∧ yX7_keep.cls ≠ "java/lang/invoke/VarHandle" ∧ (parseMethodDescriptor yX7_keep.desc).map (fun d => d.parameters.length) = some 1 := by decide +kernel
abbrev iX7_again : zMI := (RX7, cX7_again, 3, (some .boolean), 1, 22)
theorem hy_X7_again : yX7_again.cls ≠ "java/lang/invoke/MethodHandle" ∧ yX7_again.cls ≠ "java/lang/invoke/VarHandle" ∧ (parseMethodDescriptor yX7_again.desc).map (fun d => d.parameters.length) = some 1 := by decide +kernel
abbrev iX7_count : zMI := (RX7, cX7_count, 2, (some .int), 1, 22)
theorem hy_X7_count : yX7_count.cls ≠ "java/lang/invoke/MethodHandle" ∧ yX7_count.cls ≠ "java/lang/invoke/VarHandle" ∧ (parseMethodDescriptor yX7_count.desc).map (fun d => d.parameters.length) = some 1 := by decide +kernel
abbrev iX7_row : zMI := (RX7, cX7_row, 2, (some .long), 1, 22)
theorem hy_X7_row : yX7_row.cls ≠ "java/lang/invoke/MethodHandle" ∧ yX7_row.cls ≠ "java/lang/invoke/VarHandle" ∧ (parseMethodDescriptor yX7_row.desc).map (fun d => d.parameters.length) = some 1 := by decide +kernel
theorem wf_RX0_21 : Cond.fieldLink RX0 21 (TX0 3).1 (TX0 3).2.1 (TX0 3).2.2.1 ∈ zWS := zt1 45 rfl rfl
theorem wf_RX0_24 : Cond.fieldLink RX0 24 (TX0 4).1 (TX0 4).2.1 (TX0 4).2.2.1 ∈ zWS := zt1 49 rfl rfl
theorem wf_RX0_27 : Cond.fieldLink RX0 27 (TX0 5).1 (TX0 5).2.1 (TX0 5).2.2.1 ∈ zWS := zt1 53 rfl rfl
theorem wf_RX0_9 : Cond.fieldLink RX0 9 (TX0 0).1 (TX0 0).2.1 (TX0 0).2.2.1 ∈ zWS := zt1 36 rfl rfl
theorem wf_RX0_15 : Cond.fieldLink RX0 15 (TX0 1).1 (TX0 1).2.1 (TX0 1).2.2.1 ∈ zWS := zt1 39 rfl rfl
theorem wf_RX0_18 : Cond.fieldLink RX0 18 (TX0 2).1 (TX0 2).2.1 (TX0 2).2.2.1 ∈ zWS := zt1 42 rfl rfl
theorem wm_RX0_54 : Cond.methodLink RX0 54 yX0_plan ∈ zWS := zt2 46 rfl rfl
theorem wc_X0_plan : Cond.instanceMethod yX0_plan ∈ zWS ∧ Cond.selects RX0 yX0_plan yX0_plan ∈ zWS ∧ Cond.initialized yX0_plan.cls ∈ zWS ∧ Cond.code yX0_plan iX0_plan.2.1 iX0_plan.2.2.1 iX0_plan.2.2.2.1 ∈ zWS := ⟨zt2 47 rfl rfl, zt2 48 rfl rfl, zt1 2 rfl rfl, zt2 49 rfl rfl⟩
theorem wf_RX0_33 : Cond.fieldLink RX0 33 (TX0 7).1 (TX0 7).2.1 (TX0 7).2.2.1 ∈ zWS := zt1 60 rfl rfl
theorem wm_RX0_58 : Cond.methodLink RX0 58 arraycopyName ∈ zWS := zt2 50 rfl rfl
theorem wj_cp_n : Cond.native arraycopyName ∈ zWS := zt2 52 rfl rfl
theorem wj_cp_s : Cond.static arraycopyName ∈ zWS := zt2 51 rfl rfl
theorem wj_sys_i : Cond.initialized "java/lang/System" ∈ zWS := zt1 9 rfl rfl
theorem wf_RX0_37 : Cond.fieldLink RX0 37 (TX0 8).1 (TX0 8).2.1 (TX0 8).2.2.1 ∈ zWS := zt1 63 rfl rfl
theorem wf_RX0_30 : Cond.fieldLink RX0 30 (TX0 6).1 (TX0 6).2.1 (TX0 6).2.2.1 ∈ zWS := zt1 57 rfl rfl
theorem wf_RX0_45 : Cond.fieldLink RX0 45 (TX0 10).1 (TX0 10).2.1 (TX0 10).2.2.1 ∈ zWS := zt1 69 rfl rfl
theorem wf_RX0_48 : Cond.fieldLink RX0 48 (TX0 11).1 (TX0 11).2.1 (TX0 11).2.2.1 ∈ zWS := zt1 72 rfl rfl
theorem wf_RX0_51 : Cond.fieldLink RX0 51 (TX0 12).1 (TX0 12).2.1 (TX0 12).2.2.1 ∈ zWS := zt1 75 rfl rfl
theorem wf_RX0_42 : Cond.fieldLink RX0 42 (TX0 9).1 (TX0 9).2.1 (TX0 9).2.2.1 ∈ zWS := zt1 66 rfl rfl
theorem wm_RX0_64 : Cond.methodLink RX0 64 yX0_allows ∈ zWS := zt3 92 rfl rfl
theorem wc_X0_allows : Cond.instanceMethod yX0_allows ∈ zWS ∧ Cond.selects RX0 yX0_allows yX0_allows ∈ zWS ∧ Cond.initialized yX0_allows.cls ∈ zWS ∧ Cond.code yX0_allows iX0_allows.2.1 iX0_allows.2.2.1 iX0_allows.2.2.2.1 ∈ zWS := ⟨zt3 66 rfl rfl, zt3 67 rfl rfl, zt1 2 rfl rfl, zt3 68 rfl rfl⟩
theorem wc_X6_isText : Cond.static yX6_isText ∈ zWS ∧ Cond.initialized yX6_isText.cls ∈ zWS ∧ Cond.code yX6_isText iX6_isText.2.1 iX6_isText.2.2.1 iX6_isText.2.2.2.1 ∈ zWS := ⟨zt2 54 rfl rfl, zt1 1 rfl rfl, zt2 55 rfl rfl⟩
theorem wm_RX0_72 : Cond.methodLink RX0 72 yX0_hasWord ∈ zWS := zt2 80 rfl rfl
theorem wc_X0_hasWord : Cond.instanceMethod yX0_hasWord ∈ zWS ∧ Cond.selects RX0 yX0_hasWord yX0_hasWord ∈ zWS ∧ Cond.initialized yX0_hasWord.cls ∈ zWS ∧ Cond.code yX0_hasWord iX0_hasWord.2.1 iX0_hasWord.2.2.1 iX0_hasWord.2.2.2.1 ∈ zWS := ⟨zt2 81 rfl rfl, zt2 82 rfl rfl, zt1 2 rfl rfl, zt2 83 rfl rfl⟩
theorem wm_RX0_76 : Cond.methodLink RX0 76 yX0_moveTies ∈ zWS := zt3 160 rfl rfl
theorem wc_X0_moveTies : Cond.instanceMethod yX0_moveTies ∈ zWS ∧ Cond.selects RX0 yX0_moveTies yX0_moveTies ∈ zWS ∧ Cond.initialized yX0_moveTies.cls ∈ zWS ∧ Cond.code yX0_moveTies iX0_moveTies.2.1 iX0_moveTies.2.2.1 iX0_moveTies.2.2.2.1 ∈ zWS := ⟨zt3 162 rfl rfl, zp1 12 rfl rfl, zt1 2 rfl rfl, zt3 163 rfl rfl⟩
theorem wm_RX0_79 : Cond.methodLink RX0 79 yX0_isTieOf ∈ zWS := zt2 124 rfl rfl
theorem wc_X0_isTieOf : Cond.instanceMethod yX0_isTieOf ∈ zWS ∧ Cond.selects RX0 yX0_isTieOf yX0_isTieOf ∈ zWS ∧ Cond.initialized yX0_isTieOf.cls ∈ zWS ∧ Cond.code yX0_isTieOf iX0_isTieOf.2.1 iX0_isTieOf.2.2.1 iX0_isTieOf.2.2.2.1 ∈ zWS := ⟨zt2 125 rfl rfl, zt2 126 rfl rfl, zt1 2 rfl rfl, zt2 127 rfl rfl⟩
theorem wm_RX0_82 : Cond.methodLink RX0 82 yX0_dropTie ∈ zWS := zt2 72 rfl rfl
theorem wc_X0_dropTie : Cond.instanceMethod yX0_dropTie ∈ zWS ∧ Cond.selects RX0 yX0_dropTie yX0_dropTie ∈ zWS ∧ Cond.initialized yX0_dropTie.cls ∈ zWS ∧ Cond.code yX0_dropTie iX0_dropTie.2.1 iX0_dropTie.2.2.1 iX0_dropTie.2.2.2.1 ∈ zWS := ⟨zt2 74 rfl rfl, zp1 1 rfl rfl, zt1 2 rfl rfl, zt2 75 rfl rfl⟩
theorem wf_RX1_13 : Cond.fieldLink RX1 13 (TX1 0).1 (TX1 0).2.1 (TX1 0).2.2.1 ∈ zWS := zt1 188 rfl rfl
theorem wf_RX1_17 : Cond.fieldLink RX1 17 (TX1 1).1 (TX1 1).2.1 (TX1 1).2.2.1 ∈ zWS := zt1 189 rfl rfl
theorem wm_RX1_25 : Cond.methodLink RX1 25 yX0_copy ∈ zWS := zt2 42 rfl rfl
theorem wc_X0_copy : Cond.instanceMethod yX0_copy ∈ zWS ∧ Cond.selects RX0 yX0_copy yX0_copy ∈ zWS ∧ Cond.initialized yX0_copy.cls ∈ zWS ∧ Cond.code yX0_copy iX0_copy.2.1 iX0_copy.2.2.1 iX0_copy.2.2.2.1 ∈ zWS := ⟨zt2 43 rfl rfl, zt2 44 rfl rfl, zt1 2 rfl rfl, zt2 45 rfl rfl⟩
theorem wf_RX1_21 : Cond.fieldLink RX1 21 (TX1 2).1 (TX1 2).2.1 (TX1 2).2.2.1 ∈ zWS := zt1 190 rfl rfl
theorem wm_RX1_29 : Cond.methodLink RX1 29 Lib.Math.min.name ∈ zWS := zt2 97 rfl rfl
theorem wj_min_s : Cond.static Lib.Math.min.name ∈ zWS := zt2 98 rfl rfl
theorem wj_math_i : Cond.initialized "java/lang/Math" ∈ zWS := zt1 10 rfl rfl
theorem wj_min_c : Cond.code Lib.Math.min.name Lib.Math.min.code 2 (some .int) ∈ zWS := zt2 99 rfl rfl
theorem wf_RX2_13 : Cond.fieldLink RX2 13 (TX2 1).1 (TX2 1).2.1 (TX2 1).2.2.1 ∈ zWS := zt1 222 rfl rfl
theorem wf_RX2_9 : Cond.fieldLink RX2 9 (TX2 0).1 (TX2 0).2.1 (TX2 0).2.2.1 ∈ zWS := zt1 220 rfl rfl
theorem wm_RX2_17 : Cond.methodLink RX2 17 yX2_tell ∈ zWS := zt2 146 rfl rfl
theorem wc_X2_tell : Cond.instanceMethod yX2_tell ∈ zWS ∧ Cond.selects RX2 yX2_tell yX2_tell ∈ zWS ∧ Cond.initialized yX2_tell.cls ∈ zWS ∧ Cond.code yX2_tell iX2_tell.2.1 iX2_tell.2.2.1 iX2_tell.2.2.2.1 ∈ zWS := ⟨zt2 147 rfl rfl, zt2 148 rfl rfl, zt1 7 rfl rfl, zt2 149 rfl rfl⟩
theorem wm_RX2_21 : Cond.methodLink RX2 21 yX2_tell_ ∈ zWS := zt2 199 rfl rfl
theorem wc_X2_tell_ : Cond.instanceMethod yX2_tell_ ∈ zWS ∧ Cond.selects RX2 yX2_tell_ yX2_tell_ ∈ zWS ∧ Cond.initialized yX2_tell_.cls ∈ zWS ∧ Cond.code yX2_tell_ iX2_tell_.2.1 iX2_tell_.2.2.1 iX2_tell_.2.2.2.1 ∈ zWS := ⟨zt2 143 rfl rfl, zt2 144 rfl rfl, zt1 7 rfl rfl, zt2 145 rfl rfl⟩
theorem wm_RX2_24 : Cond.methodLink RX2 24 yX2_tell__ ∈ zWS := zt2 195 rfl rfl
theorem wc_X2_tell__ : Cond.instanceMethod yX2_tell__ ∈ zWS ∧ Cond.selects RX2 yX2_tell__ yX2_tell__ ∈ zWS ∧ Cond.initialized yX2_tell__.cls ∈ zWS ∧ Cond.code yX2_tell__ iX2_tell__.2.1 iX2_tell__.2.2.1 iX2_tell__.2.2.2.1 ∈ zWS := ⟨zt2 196 rfl rfl, zt2 197 rfl rfl, zt1 7 rfl rfl, zt2 198 rfl rfl⟩
theorem wm_RX2_27 : Cond.methodLink RX2 27 Lib.Math.min.name ∈ zWS := zt3 37 rfl rfl
theorem wm_RX2_33 : Cond.methodLink RX2 33 Lib.Math.max.name ∈ zWS := zt3 38 rfl rfl
theorem wj_max_s : Cond.static Lib.Math.max.name ∈ zWS := zt2 235 rfl rfl
theorem wj_max_c : Cond.code Lib.Math.max.name Lib.Math.max.code 2 (some .int) ∈ zWS := zt2 236 rfl rfl
theorem wf_RX3_27 : Cond.fieldLink RX3 27 (TX0 3).1 (TX0 3).2.1 (TX0 3).2.2.1 ∈ zWS := zt1 46 rfl rfl
theorem wf_RX3_9 : Cond.fieldLink RX3 9 (TX3 0).1 (TX3 0).2.1 (TX3 0).2.2.1 ∈ zWS := zt1 158 rfl rfl
theorem wf_RX3_30 : Cond.fieldLink RX3 30 (TX0 4).1 (TX0 4).2.1 (TX0 4).2.2.1 ∈ zWS := zt1 50 rfl rfl
theorem wf_RX3_15 : Cond.fieldLink RX3 15 (TX3 1).1 (TX3 1).2.1 (TX3 1).2.2.1 ∈ zWS := zt1 160 rfl rfl
theorem wf_RX3_31 : Cond.fieldLink RX3 31 (TX0 5).1 (TX0 5).2.1 (TX0 5).2.2.1 ∈ zWS := zt1 54 rfl rfl
theorem wf_RX3_18 : Cond.fieldLink RX3 18 (TX3 2).1 (TX3 2).2.1 (TX3 2).2.2.1 ∈ zWS := zt1 162 rfl rfl
theorem wf_RX3_21 : Cond.fieldLink RX3 21 (TX3 3).1 (TX3 3).2.1 (TX3 3).2.2.1 ∈ zWS := zt1 164 rfl rfl
theorem wf_RX4_15 : Cond.fieldLink RX4 15 (TX4 1).1 (TX4 1).2.1 (TX4 1).2.2.1 ∈ zWS := zt1 115 rfl rfl
theorem wf_RX4_61 : Cond.fieldLink RX4 61 (TX0 8).1 (TX0 8).2.1 (TX0 8).2.2.1 ∈ zWS := zt1 64 rfl rfl
theorem wf_RX4_79 : Cond.fieldLink RX4 79 (TX0 9).1 (TX0 9).2.1 (TX0 9).2.2.1 ∈ zWS := zt1 67 rfl rfl
theorem wf_RX4_27 : Cond.fieldLink RX4 27 (TX4 4).1 (TX4 4).2.1 (TX4 4).2.2.1 ∈ zWS := zt1 120 rfl rfl
theorem wf_RX4_33 : Cond.fieldLink RX4 33 (TX4 6).1 (TX4 6).2.1 (TX4 6).2.2.1 ∈ zWS := zt1 124 rfl rfl
theorem wf_RX4_30 : Cond.fieldLink RX4 30 (TX4 5).1 (TX4 5).2.1 (TX4 5).2.2.1 ∈ zWS := zt1 122 rfl rfl
theorem wf_RX4_36 : Cond.fieldLink RX4 36 (TX4 7).1 (TX4 7).2.1 (TX4 7).2.2.1 ∈ zWS := zt1 125 rfl rfl
theorem wf_RX4_39 : Cond.fieldLink RX4 39 (TX4 8).1 (TX4 8).2.1 (TX4 8).2.2.1 ∈ zWS := zt1 127 rfl rfl
theorem wf_RX4_42 : Cond.fieldLink RX4 42 (TX4 9).1 (TX4 9).2.1 (TX4 9).2.2.1 ∈ zWS := zt1 129 rfl rfl
theorem wf_RX4_22 : Cond.fieldLink RX4 22 (TX4 3).1 (TX4 3).2.1 (TX4 3).2.2.1 ∈ zWS := zt1 118 rfl rfl
theorem wf_RX4_19 : Cond.fieldLink RX4 19 (TX4 2).1 (TX4 2).2.1 (TX4 2).2.2.1 ∈ zWS := zt1 116 rfl rfl
theorem wm_RX4_45 : Cond.methodLink RX4 45 yX4_isLeft ∈ zWS := zt2 158 rfl rfl
theorem wc_X4_isLeft : Cond.instanceMethod yX4_isLeft ∈ zWS ∧ Cond.selects RX4 yX4_isLeft yX4_isLeft ∈ zWS ∧ Cond.initialized yX4_isLeft.cls ∈ zWS ∧ Cond.code yX4_isLeft iX4_isLeft.2.1 iX4_isLeft.2.2.1 iX4_isLeft.2.2.2.1 ∈ zWS := ⟨zt2 160 rfl rfl, zp1 5 rfl rfl, zt1 3 rfl rfl, zt2 161 rfl rfl⟩
theorem wf_RX4_67 : Cond.fieldLink RX4 67 (TX0 0).1 (TX0 0).2.1 (TX0 0).2.2.1 ∈ zWS := zt1 37 rfl rfl
theorem wf_RX4_69 : Cond.fieldLink RX4 69 (TX0 2).1 (TX0 2).2.1 (TX0 2).2.2.1 ∈ zWS := zt1 43 rfl rfl
theorem wf_RX4_64 : Cond.fieldLink RX4 64 (TX0 4).1 (TX0 4).2.1 (TX0 4).2.2.1 ∈ zWS := zt1 51 rfl rfl
theorem wf_RX4_72 : Cond.fieldLink RX4 72 (TX0 5).1 (TX0 5).2.1 (TX0 5).2.2.1 ∈ zWS := zt1 55 rfl rfl
theorem wm_RX4_75 : Cond.methodLink RX4 75 yX4_takePart ∈ zWS := zt2 166 rfl rfl
theorem wc_X4_takePart : Cond.instanceMethod yX4_takePart ∈ zWS ∧ Cond.selects RX4 yX4_takePart yX4_takePart ∈ zWS ∧ Cond.initialized yX4_takePart.cls ∈ zWS ∧ Cond.code yX4_takePart iX4_takePart.2.1 iX4_takePart.2.2.1 iX4_takePart.2.2.2.1 ∈ zWS := ⟨zt2 168 rfl rfl, zp1 7 rfl rfl, zt1 3 rfl rfl, zt2 169 rfl rfl⟩
theorem wf_RX4_9 : Cond.fieldLink RX4 9 (TX4 0).1 (TX4 0).2.1 (TX4 0).2.2.1 ∈ zWS := zt1 113 rfl rfl
theorem wf_RX4_49 : Cond.fieldLink RX4 49 (TX0 3).1 (TX0 3).2.1 (TX0 3).2.2.1 ∈ zWS := zt1 47 rfl rfl
theorem wm_RX4_54 : Cond.methodLink RX4 54 yX4_setLine ∈ zWS := zt2 162 rfl rfl
theorem wc_X4_setLine : Cond.instanceMethod yX4_setLine ∈ zWS ∧ Cond.selects RX4 yX4_setLine yX4_setLine ∈ zWS ∧ Cond.initialized yX4_setLine.cls ∈ zWS ∧ Cond.code yX4_setLine iX4_setLine.2.1 iX4_setLine.2.2.1 iX4_setLine.2.2.2.1 ∈ zWS := ⟨zt2 164 rfl rfl, zp1 6 rfl rfl, zt1 3 rfl rfl, zt2 165 rfl rfl⟩
theorem wf_RX4_58 : Cond.fieldLink RX4 58 (TX0 1).1 (TX0 1).2.1 (TX0 1).2.2.1 ∈ zWS := zt1 40 rfl rfl
theorem wm_RX4_92 : Cond.methodLink RX4 92 yX4_endOf ∈ zWS := zt2 225 rfl rfl
theorem wc_X4_endOf : Cond.instanceMethod yX4_endOf ∈ zWS ∧ Cond.selects RX4 yX4_endOf yX4_endOf ∈ zWS ∧ Cond.initialized yX4_endOf.cls ∈ zWS ∧ Cond.code yX4_endOf iX4_endOf.2.1 iX4_endOf.2.2.1 iX4_endOf.2.2.2.1 ∈ zWS := ⟨zt2 214 rfl rfl, zt2 215 rfl rfl, zt1 3 rfl rfl, zt2 216 rfl rfl⟩
theorem wm_RX4_86 : Cond.methodLink RX4 86 Lib.Math.min.name ∈ zWS := zt2 208 rfl rfl
theorem wm_RX4_96 : Cond.methodLink RX4 96 Lib.Math.max.name ∈ zWS := zt2 234 rfl rfl
theorem wf_RX4_99 : Cond.fieldLink RX4 99 (TX0 10).1 (TX0 10).2.1 (TX0 10).2.2.1 ∈ zWS := zt1 70 rfl rfl
theorem wf_RX4_102 : Cond.fieldLink RX4 102 (TX0 11).1 (TX0 11).2.1 (TX0 11).2.2.1 ∈ zWS := zt1 73 rfl rfl
theorem wf_RX4_105 : Cond.fieldLink RX4 105 (TX0 12).1 (TX0 12).2.1 (TX0 12).2.2.1 ∈ zWS := zt1 76 rfl rfl
theorem wf_RX4_108 : Cond.fieldLink RX4 108 (TX0 6).1 (TX0 6).2.1 (TX0 6).2.2.1 ∈ zWS := zt1 58 rfl rfl
theorem wm_RX4_111 : Cond.methodLink RX4 111 yX4_deepOf ∈ zWS := zt3 14 rfl rfl
theorem wc_X4_deepOf : Cond.instanceMethod yX4_deepOf ∈ zWS ∧ Cond.selects RX4 yX4_deepOf yX4_deepOf ∈ zWS ∧ Cond.initialized yX4_deepOf.cls ∈ zWS ∧ Cond.code yX4_deepOf iX4_deepOf.2.1 iX4_deepOf.2.2.1 iX4_deepOf.2.2.2.1 ∈ zWS := ⟨zt3 15 rfl rfl, zt3 16 rfl rfl, zt1 3 rfl rfl, zt3 17 rfl rfl⟩
theorem wc_X6_isBroken : Cond.static yX6_isBroken ∈ zWS ∧ Cond.initialized yX6_isBroken.cls ∈ zWS ∧ Cond.code yX6_isBroken iX6_isBroken.2.1 iX6_isBroken.2.2.1 iX6_isBroken.2.2.2.1 ∈ zWS := ⟨zt3 19 rfl rfl, zt1 1 rfl rfl, zt3 20 rfl rfl⟩
theorem wm_RX4_118 : Cond.methodLink RX4 118 yX4_endsApart ∈ zWS := zt3 26 rfl rfl
theorem wc_X4_endsApart : Cond.instanceMethod yX4_endsApart ∈ zWS ∧ Cond.selects RX4 yX4_endsApart yX4_endsApart ∈ zWS ∧ Cond.initialized yX4_endsApart.cls ∈ zWS ∧ Cond.code yX4_endsApart iX4_endsApart.2.1 iX4_endsApart.2.2.1 iX4_endsApart.2.2.2.1 ∈ zWS := ⟨zt2 231 rfl rfl, zt2 232 rfl rfl, zt1 3 rfl rfl, zt2 233 rfl rfl⟩
theorem wf_RX4_122 : Cond.fieldLink RX4 122 (TX0 7).1 (TX0 7).2.1 (TX0 7).2.2.1 ∈ zWS := zt1 61 rfl rfl
theorem wm_RX4_125 : Cond.methodLink RX4 125 yX4_brokenTies ∈ zWS := zt3 27 rfl rfl
theorem wc_X4_brokenTies : Cond.instanceMethod yX4_brokenTies ∈ zWS ∧ Cond.selects RX4 yX4_brokenTies yX4_brokenTies ∈ zWS ∧ Cond.initialized yX4_brokenTies.cls ∈ zWS ∧ Cond.code yX4_brokenTies iX4_brokenTies.2.1 iX4_brokenTies.2.2.1 iX4_brokenTies.2.2.2.1 ∈ zWS := ⟨zt3 11 rfl rfl, zt3 12 rfl rfl, zt1 3 rfl rfl, zt3 13 rfl rfl⟩
theorem wm_RX4_128 : Cond.methodLink RX4 128 yX4_raggedInAll ∈ zWS := zt3 28 rfl rfl
theorem wc_X4_raggedInAll : Cond.instanceMethod yX4_raggedInAll ∈ zWS ∧ Cond.selects RX4 yX4_raggedInAll yX4_raggedInAll ∈ zWS ∧ Cond.initialized yX4_raggedInAll.cls ∈ zWS ∧ Cond.code yX4_raggedInAll iX4_raggedInAll.2.1 iX4_raggedInAll.2.2.1 iX4_raggedInAll.2.2.2.1 ∈ zWS := ⟨zt3 3 rfl rfl, zt3 4 rfl rfl, zt1 3 rfl rfl, zt3 5 rfl rfl⟩
theorem wf_RX3_24 : Cond.fieldLink RX3 24 (TX3 4).1 (TX3 4).2.1 (TX3 4).2.2.1 ∈ zWS := zt1 166 rfl rfl
theorem wm_RX3_32 : Cond.methodLink RX3 32 yX0_plan ∈ zWS := zt3 81 rfl rfl
theorem wm_RX3_36 : Cond.methodLink RX3 36 yX4_set ∈ zWS := zt3 82 rfl rfl
theorem wc_X4_set : Cond.instanceMethod yX4_set ∈ zWS ∧ Cond.selects RX4 yX4_set yX4_set ∈ zWS ∧ Cond.initialized yX4_set.cls ∈ zWS ∧ Cond.code yX4_set iX4_set.2.1 iX4_set.2.2.1 iX4_set.2.2.2.1 ∈ zWS := ⟨zt2 155 rfl rfl, zt2 156 rfl rfl, zt1 3 rfl rfl, zt2 157 rfl rfl⟩
theorem wm_RX3_42 : Cond.methodLink RX3 42 yX4_costOf ∈ zWS := zt3 83 rfl rfl
theorem wc_X4_costOf : Cond.instanceMethod yX4_costOf ∈ zWS ∧ Cond.selects RX4 yX4_costOf yX4_costOf ∈ zWS ∧ Cond.initialized yX4_costOf.cls ∈ zWS ∧ Cond.code yX4_costOf iX4_costOf.2.1 iX4_costOf.2.2.1 iX4_costOf.2.2.2.1 ∈ zWS := ⟨zt3 23 rfl rfl, zt3 24 rfl rfl, zt1 3 rfl rfl, zt3 25 rfl rfl⟩
theorem wm_RX3_46 : Cond.methodLink RX3 46 yX3_note ∈ zWS := zt3 84 rfl rfl
theorem wc_X3_note : Cond.instanceMethod yX3_note ∈ zWS ∧ Cond.selects RX3 yX3_note yX3_note ∈ zWS ∧ Cond.initialized yX3_note.cls ∈ zWS ∧ Cond.code yX3_note iX3_note.2.1 iX3_note.2.2.1 iX3_note.2.2.2.1 ∈ zWS := ⟨zt3 86 rfl rfl, zp1 9 rfl rfl, zt1 4 rfl rfl, zt3 87 rfl rfl⟩
theorem wm_RX3_50 : Cond.methodLink RX3 50 yX0_toNextPlan ∈ zWS := zt3 88 rfl rfl
theorem wc_X0_toNextPlan : Cond.instanceMethod yX0_toNextPlan ∈ zWS ∧ Cond.selects RX0 yX0_toNextPlan yX0_toNextPlan ∈ zWS ∧ Cond.initialized yX0_toNextPlan.cls ∈ zWS ∧ Cond.code yX0_toNextPlan iX0_toNextPlan.2.1 iX0_toNextPlan.2.2.1 iX0_toNextPlan.2.2.2.1 ∈ zWS := ⟨zt3 89 rfl rfl, zt3 90 rfl rfl, zt1 2 rfl rfl, zt3 91 rfl rfl⟩
theorem wm_RX3_54 : Cond.methodLink RX3 54 yX4_endsApart ∈ zWS := zt3 101 rfl rfl
theorem wm_RX3_71 : Cond.methodLink RX3 71 yX0_allows ∈ zWS := zt3 124 rfl rfl
theorem wm_RX3_57 : Cond.methodLink RX3 57 yX3_findBetter ∈ zWS := zt3 114 rfl rfl
theorem wc_X3_findBetter : Cond.instanceMethod yX3_findBetter ∈ zWS ∧ Cond.selects RX3 yX3_findBetter yX3_findBetter ∈ zWS ∧ Cond.initialized yX3_findBetter.cls ∈ zWS ∧ Cond.code yX3_findBetter iX3_findBetter.2.1 iX3_findBetter.2.2.1 iX3_findBetter.2.2.2.1 ∈ zWS := ⟨zt3 116 rfl rfl, zp1 10 rfl rfl, zt1 4 rfl rfl, zt3 117 rfl rfl⟩
theorem wm_RX4_82 : Cond.methodLink RX4 82 yX0_pageOf ∈ zWS := zt2 174 rfl rfl
theorem wc_X0_pageOf : Cond.instanceMethod yX0_pageOf ∈ zWS ∧ Cond.selects RX0 yX0_pageOf yX0_pageOf ∈ zWS ∧ Cond.initialized yX0_pageOf.cls ∈ zWS ∧ Cond.code yX0_pageOf iX0_pageOf.2.1 iX0_pageOf.2.2.1 iX0_pageOf.2.2.2.1 ∈ zWS := ⟨zt2 175 rfl rfl, zt2 176 rfl rfl, zt1 2 rfl rfl, zt2 177 rfl rfl⟩
theorem wf_RX5_15 : Cond.fieldLink RX5 15 (TX5 1).1 (TX5 1).2.1 (TX5 1).2.2.1 ∈ zWS := zt1 206 rfl rfl
theorem wf_RX5_9 : Cond.fieldLink RX5 9 (TX5 0).1 (TX5 0).2.1 (TX5 0).2.2.1 ∈ zWS := zt1 205 rfl rfl
theorem wm_RX5_19 : Cond.methodLink RX5 19 yX5_signAt ∈ zWS := zt2 64 rfl rfl
theorem wc_X5_signAt : Cond.instanceMethod yX5_signAt ∈ zWS ∧ Cond.selects RX5 yX5_signAt yX5_signAt ∈ zWS ∧ Cond.initialized yX5_signAt.cls ∈ zWS ∧ Cond.code yX5_signAt iX5_signAt.2.1 iX5_signAt.2.2.1 iX5_signAt.2.2.2.1 ∈ zWS := ⟨zt2 65 rfl rfl, zt2 66 rfl rfl, zt1 6 rfl rfl, zt2 67 rfl rfl⟩
theorem wm_RX5_23 : Cond.methodLink RX5 23 yX5_digitAt ∈ zWS := zt2 118 rfl rfl
theorem wc_X5_digitAt : Cond.instanceMethod yX5_digitAt ∈ zWS ∧ Cond.selects RX5 yX5_digitAt yX5_digitAt ∈ zWS ∧ Cond.initialized yX5_digitAt.cls ∈ zWS ∧ Cond.code yX5_digitAt iX5_digitAt.2.1 iX5_digitAt.2.2.1 iX5_digitAt.2.2.2.1 ∈ zWS := ⟨zt2 61 rfl rfl, zt2 62 rfl rfl, zt1 6 rfl rfl, zt2 63 rfl rfl⟩
theorem wf_RX6_51 : Cond.fieldLink RX6 51 (TX6 7).1 (TX6 7).2.1 (TX6 7).2.2.1 ∈ zWS := zt1 237 rfl rfl
theorem wm_RX6_62 : Cond.methodLink RX6 62 yX5_add ∈ zWS := zt2 22 rfl rfl
theorem wc_X5_add : Cond.instanceMethod yX5_add ∈ zWS ∧ Cond.selects RX5 yX5_add yX5_add ∈ zWS ∧ Cond.initialized yX5_add.cls ∈ zWS ∧ Cond.code yX5_add iX5_add.2.1 iX5_add.2.2.1 iX5_add.2.2.2.1 ∈ zWS := ⟨zt2 23 rfl rfl, zt2 24 rfl rfl, zt1 6 rfl rfl, zt2 25 rfl rfl⟩
theorem wf_RX6_66 : Cond.fieldLink RX6 66 (TX5 1).1 (TX5 1).2.1 (TX5 1).2.2.1 ∈ zWS := zt1 207 rfl rfl
theorem wm_RX6_70 : Cond.methodLink RX6 70 yX5_cut ∈ zWS := zt2 30 rfl rfl
theorem wc_X5_cut : Cond.instanceMethod yX5_cut ∈ zWS ∧ Cond.selects RX5 yX5_cut yX5_cut ∈ zWS ∧ Cond.initialized yX5_cut.cls ∈ zWS ∧ Cond.code yX5_cut iX5_cut.2.1 iX5_cut.2.2.1 iX5_cut.2.2.2.1 ∈ zWS := ⟨zt2 31 rfl rfl, zt2 32 rfl rfl, zt1 6 rfl rfl, zt2 33 rfl rfl⟩
theorem wf_RX6_12 : Cond.fieldLink RX6 12 (TX6 0).1 (TX6 0).2.1 (TX6 0).2.2.1 ∈ zWS := zt1 230 rfl rfl
theorem wm_RX6_358 : Cond.methodLink RX6 358 yX0_dropTiesOf ∈ zWS := zt2 68 rfl rfl
theorem wc_X0_dropTiesOf : Cond.instanceMethod yX0_dropTiesOf ∈ zWS ∧ Cond.selects RX0 yX0_dropTiesOf yX0_dropTiesOf ∈ zWS ∧ Cond.initialized yX0_dropTiesOf.cls ∈ zWS ∧ Cond.code yX0_dropTiesOf iX0_dropTiesOf.2.1 iX0_dropTiesOf.2.2.1 iX0_dropTiesOf.2.2.2.1 ∈ zWS := ⟨zt2 69 rfl rfl, zt2 70 rfl rfl, zt1 2 rfl rfl, zt2 71 rfl rfl⟩
theorem wf_RX6_231 : Cond.fieldLink RX6 231 (TX0 8).1 (TX0 8).2.1 (TX0 8).2.2.1 ∈ zWS := zt1 65 rfl rfl
theorem wm_RX6_355 : Cond.methodLink RX6 355 yX5_digitAt ∈ zWS := zt2 60 rfl rfl
theorem wm_RX6_109 : Cond.methodLink RX6 109 yX0_setSize ∈ zWS := zt2 76 rfl rfl
theorem wc_X0_setSize : Cond.instanceMethod yX0_setSize ∈ zWS ∧ Cond.selects RX0 yX0_setSize yX0_setSize ∈ zWS ∧ Cond.initialized yX0_setSize.cls ∈ zWS ∧ Cond.code yX0_setSize iX0_setSize.2.1 iX0_setSize.2.2.1 iX0_setSize.2.2.2.1 ∈ zWS := ⟨zt2 77 rfl rfl, zt2 78 rfl rfl, zt1 2 rfl rfl, zt2 79 rfl rfl⟩
theorem wf_RX6_36 : Cond.fieldLink RX6 36 (TX6 4).1 (TX6 4).2.1 (TX6 4).2.2.1 ∈ zWS := zt1 234 rfl rfl
theorem wm_RX6_327 : Cond.methodLink RX6 327 yX1_remember ∈ zWS := zt2 93 rfl rfl
theorem wc_X1_remember : Cond.instanceMethod yX1_remember ∈ zWS ∧ Cond.selects RX1 yX1_remember yX1_remember ∈ zWS ∧ Cond.initialized yX1_remember.cls ∈ zWS ∧ Cond.code yX1_remember iX1_remember.2.1 iX1_remember.2.2.1 iX1_remember.2.2.2.1 ∈ zWS := ⟨zt2 94 rfl rfl, zt2 95 rfl rfl, zt1 5 rfl rfl, zt2 96 rfl rfl⟩
theorem wm_RX6_73 : Cond.methodLink RX6 73 yX1_mark ∈ zWS := zt2 38 rfl rfl
theorem wc_X1_mark : Cond.instanceMethod yX1_mark ∈ zWS ∧ Cond.selects RX1 yX1_mark yX1_mark ∈ zWS ∧ Cond.initialized yX1_mark.cls ∈ zWS ∧ Cond.code yX1_mark iX1_mark.2.1 iX1_mark.2.2.1 iX1_mark.2.2.2.1 ∈ zWS := ⟨zt2 39 rfl rfl, zt2 40 rfl rfl, zt1 5 rfl rfl, zt2 41 rfl rfl⟩
theorem wm_RX6_77 : Cond.methodLink RX6 77 yX6_isText ∈ zWS := zt2 53 rfl rfl
theorem wm_RX6_80 : Cond.methodLink RX6 80 yX6_readWords ∈ zWS := zt2 56 rfl rfl
theorem wc_X6_readWords : Cond.instanceMethod yX6_readWords ∈ zWS ∧ Cond.selects RX6 yX6_readWords yX6_readWords ∈ zWS ∧ Cond.initialized yX6_readWords.cls ∈ zWS ∧ Cond.code yX6_readWords iX6_readWords.2.1 iX6_readWords.2.2.1 iX6_readWords.2.2.2.1 ∈ zWS := ⟨zt2 58 rfl rfl, zp1 0 rfl rfl, zt1 1 rfl rfl, zt2 59 rfl rfl⟩
theorem wm_RX6_84 : Cond.methodLink RX6 84 yX5_clear ∈ zWS := zt2 85 rfl rfl
theorem wc_X5_clear : Cond.instanceMethod yX5_clear ∈ zWS ∧ Cond.selects RX5 yX5_clear yX5_clear ∈ zWS ∧ Cond.initialized yX5_clear.cls ∈ zWS ∧ Cond.code yX5_clear iX5_clear.2.1 iX5_clear.2.2.1 iX5_clear.2.2.2.1 ∈ zWS := ⟨zt2 86 rfl rfl, zt2 87 rfl rfl, zt1 6 rfl rfl, zt2 88 rfl rfl⟩
theorem wm_RX6_87 : Cond.methodLink RX6 87 yX6_remembered ∈ zWS := zt2 89 rfl rfl
theorem wc_X6_remembered : Cond.instanceMethod yX6_remembered ∈ zWS ∧ Cond.selects RX6 yX6_remembered yX6_remembered ∈ zWS ∧ Cond.initialized yX6_remembered.cls ∈ zWS ∧ Cond.code yX6_remembered iX6_remembered.2.1 iX6_remembered.2.2.1 iX6_remembered.2.2.2.1 ∈ zWS := ⟨zt2 91 rfl rfl, zp1 2 rfl rfl, zt1 1 rfl rfl, zt2 92 rfl rfl⟩
theorem wm_RX6_316 : Cond.methodLink RX6 316 yX5_signAt ∈ zWS := zt2 113 rfl rfl
theorem wf_RX6_16 : Cond.fieldLink RX6 16 (TX6 1).1 (TX6 1).2.1 (TX6 1).2.2.1 ∈ zWS := zt1 231 rfl rfl
theorem wf_RX6_213 : Cond.fieldLink RX6 213 (TX0 6).1 (TX0 6).2.1 (TX0 6).2.2.1 ∈ zWS := zt1 59 rfl rfl
theorem wm_RX6_364 : Cond.methodLink RX6 364 yX5_numberAt ∈ zWS := zt2 114 rfl rfl
theorem wc_X5_numberAt : Cond.instanceMethod yX5_numberAt ∈ zWS ∧ Cond.selects RX5 yX5_numberAt yX5_numberAt ∈ zWS ∧ Cond.initialized yX5_numberAt.cls ∈ zWS ∧ Cond.code yX5_numberAt iX5_numberAt.2.1 iX5_numberAt.2.2.1 iX5_numberAt.2.2.2.1 ∈ zWS := ⟨zt2 115 rfl rfl, zt2 116 rfl rfl, zt1 6 rfl rfl, zt2 117 rfl rfl⟩
theorem wm_RX6_94 : Cond.methodLink RX6 94 yX0_hasWord ∈ zWS := zt2 119 rfl rfl
theorem wm_RX6_234 : Cond.methodLink RX6 234 yX0_isTied ∈ zWS := zt2 120 rfl rfl
theorem wc_X0_isTied : Cond.instanceMethod yX0_isTied ∈ zWS ∧ Cond.selects RX0 yX0_isTied yX0_isTied ∈ zWS ∧ Cond.initialized yX0_isTied.cls ∈ zWS ∧ Cond.code yX0_isTied iX0_isTied.2.1 iX0_isTied.2.2.1 iX0_isTied.2.2.2.1 ∈ zWS := ⟨zt2 121 rfl rfl, zt2 122 rfl rfl, zt1 2 rfl rfl, zt2 123 rfl rfl⟩
theorem wm_RX6_367 : Cond.methodLink RX6 367 yX0_addTie ∈ zWS := zt2 128 rfl rfl
theorem wc_X0_addTie : Cond.instanceMethod yX0_addTie ∈ zWS ∧ Cond.selects RX0 yX0_addTie yX0_addTie ∈ zWS ∧ Cond.initialized yX0_addTie.cls ∈ zWS ∧ Cond.code yX0_addTie iX0_addTie.2.1 iX0_addTie.2.2.1 iX0_addTie.2.2.2.1 ∈ zWS := ⟨zt2 129 rfl rfl, zt2 130 rfl rfl, zt1 2 rfl rfl, zt2 131 rfl rfl⟩
theorem wm_RX6_240 : Cond.methodLink RX6 240 yX0_copy ∈ zWS := zt2 108 rfl rfl
theorem wm_RX6_361 : Cond.methodLink RX6 361 yX6_readTie ∈ zWS := zt2 109 rfl rfl
theorem wc_X6_readTie : Cond.instanceMethod yX6_readTie ∈ zWS ∧ Cond.selects RX6 yX6_readTie yX6_readTie ∈ zWS ∧ Cond.initialized yX6_readTie.cls ∈ zWS ∧ Cond.code yX6_readTie iX6_readTie.2.1 iX6_readTie.2.2.1 iX6_readTie.2.2.2.1 ∈ zWS := ⟨zt2 111 rfl rfl, zp1 4 rfl rfl, zt1 1 rfl rfl, zt2 112 rfl rfl⟩
theorem wm_RX6_90 : Cond.methodLink RX6 90 yX6_readTies ∈ zWS := zt2 104 rfl rfl
theorem wc_X6_readTies : Cond.instanceMethod yX6_readTies ∈ zWS ∧ Cond.selects RX6 yX6_readTies yX6_readTies ∈ zWS ∧ Cond.initialized yX6_readTies.cls ∈ zWS ∧ Cond.code yX6_readTies iX6_readTies.2.1 iX6_readTies.2.2.1 iX6_readTies.2.2.2.1 ∈ zWS := ⟨zt2 106 rfl rfl, zp1 3 rfl rfl, zt1 1 rfl rfl, zt2 107 rfl rfl⟩
theorem wm_RX6_98 : Cond.methodLink RX6 98 yX6_entry ∈ zWS := zt2 136 rfl rfl
theorem wc_X6_entry : Cond.static yX6_entry ∈ zWS ∧ Cond.initialized yX6_entry.cls ∈ zWS ∧ Cond.code yX6_entry iX6_entry.2.1 iX6_entry.2.2.1 iX6_entry.2.2.2.1 ∈ zWS := ⟨zt2 137 rfl rfl, zt1 1 rfl rfl, zt2 138 rfl rfl⟩
theorem wm_RX6_102 : Cond.methodLink RX6 102 yX6_isSize ∈ zWS := zt2 139 rfl rfl
theorem wc_X6_isSize : Cond.static yX6_isSize ∈ zWS ∧ Cond.initialized yX6_isSize.cls ∈ zWS ∧ Cond.code yX6_isSize iX6_isSize.2.1 iX6_isSize.2.2.1 iX6_isSize.2.2.2.1 ∈ zWS := ⟨zt2 140 rfl rfl, zt1 1 rfl rfl, zt2 141 rfl rfl⟩
theorem wf_RX6_58 : Cond.fieldLink RX6 58 (TX6 8).1 (TX6 8).2.1 (TX6 8).2.2.1 ∈ zWS := zt1 238 rfl rfl
theorem wm_RX6_105 : Cond.methodLink RX6 105 yX2_tell_ ∈ zWS := zt2 142 rfl rfl
theorem wf_RX6_22 : Cond.fieldLink RX6 22 (TX6 2).1 (TX6 2).2.1 (TX6 2).2.2.1 ∈ zWS := zt1 232 rfl rfl
theorem wm_RX6_113 : Cond.methodLink RX6 113 yX4_set ∈ zWS := zt2 154 rfl rfl
theorem wm_RX6_116 : Cond.methodLink RX6 116 yX4_pageCount ∈ zWS := zt2 170 rfl rfl
theorem wc_X4_pageCount : Cond.instanceMethod yX4_pageCount ∈ zWS ∧ Cond.selects RX4 yX4_pageCount yX4_pageCount ∈ zWS ∧ Cond.initialized yX4_pageCount.cls ∈ zWS ∧ Cond.code yX4_pageCount iX4_pageCount.2.1 iX4_pageCount.2.2.1 iX4_pageCount.2.2.2.1 ∈ zWS := ⟨zt2 171 rfl rfl, zt2 172 rfl rfl, zt1 3 rfl rfl, zt2 173 rfl rfl⟩
theorem wf_RX6_120 : Cond.fieldLink RX6 120 (TX4 0).1 (TX4 0).2.1 (TX4 0).2.2.1 ∈ zWS := zt1 114 rfl rfl
theorem wf_RX6_123 : Cond.fieldLink RX6 123 (TX0 1).1 (TX0 1).2.1 (TX0 1).2.2.1 ∈ zWS := zt1 41 rfl rfl
theorem wm_RX6_126 : Cond.methodLink RX6 126 yX2_tell ∈ zWS := zt2 178 rfl rfl
theorem wm_RX6_129 : Cond.methodLink RX6 129 yX6_placeOf ∈ zWS := zt2 183 rfl rfl
theorem wc_X6_placeOf : Cond.instanceMethod yX6_placeOf ∈ zWS ∧ Cond.selects RX6 yX6_placeOf yX6_placeOf ∈ zWS ∧ Cond.initialized yX6_placeOf.cls ∈ zWS ∧ Cond.code yX6_placeOf iX6_placeOf.2.1 iX6_placeOf.2.2.1 iX6_placeOf.2.2.2.1 ∈ zWS := ⟨zt2 185 rfl rfl, zp1 8 rfl rfl, zt1 1 rfl rfl, zt2 186 rfl rfl⟩
theorem wm_RX6_133 : Cond.methodLink RX6 133 yX4_takenAt ∈ zWS := zt2 187 rfl rfl
theorem wc_X4_takenAt : Cond.instanceMethod yX4_takenAt ∈ zWS ∧ Cond.selects RX4 yX4_takenAt yX4_takenAt ∈ zWS ∧ Cond.initialized yX4_takenAt.cls ∈ zWS ∧ Cond.code yX4_takenAt iX4_takenAt.2.1 iX4_takenAt.2.2.1 iX4_takenAt.2.2.2.1 ∈ zWS := ⟨zt2 188 rfl rfl, zt2 189 rfl rfl, zt1 3 rfl rfl, zt2 190 rfl rfl⟩
theorem wf_RX6_136 : Cond.fieldLink RX6 136 (TX4 5).1 (TX4 5).2.1 (TX4 5).2.2.1 ∈ zWS := zt1 123 rfl rfl
theorem wf_RX6_140 : Cond.fieldLink RX6 140 (TX4 7).1 (TX4 7).2.1 (TX4 7).2.2.1 ∈ zWS := zt1 126 rfl rfl
theorem wf_RX6_143 : Cond.fieldLink RX6 143 (TX4 8).1 (TX4 8).2.1 (TX4 8).2.2.1 ∈ zWS := zt1 128 rfl rfl
theorem wf_RX6_146 : Cond.fieldLink RX6 146 (TX4 9).1 (TX4 9).2.1 (TX4 9).2.2.1 ∈ zWS := zt1 130 rfl rfl
theorem wm_RX6_149 : Cond.methodLink RX6 149 yX2_tell___ ∈ zWS := zt2 191 rfl rfl
theorem wc_X2_tell___ : Cond.instanceMethod yX2_tell___ ∈ zWS ∧ Cond.selects RX2 yX2_tell___ yX2_tell___ ∈ zWS ∧ Cond.initialized yX2_tell___.cls ∈ zWS ∧ Cond.code yX2_tell___ iX2_tell___.2.1 iX2_tell___.2.2.1 iX2_tell___.2.2.2.1 ∈ zWS := ⟨zt2 192 rfl rfl, zt2 193 rfl rfl, zt1 7 rfl rfl, zt2 194 rfl rfl⟩
theorem wf_RX6_155 : Cond.fieldLink RX6 155 (TX4 4).1 (TX4 4).2.1 (TX4 4).2.2.1 ∈ zWS := zt1 121 rfl rfl
theorem wm_RX6_158 : Cond.methodLink RX6 158 yX0_pageOf ∈ zWS := zt3 1 rfl rfl
theorem wm_RX6_161 : Cond.methodLink RX6 161 yX4_columnOf ∈ zWS := zt2 204 rfl rfl
theorem wc_X4_columnOf : Cond.instanceMethod yX4_columnOf ∈ zWS ∧ Cond.selects RX4 yX4_columnOf yX4_columnOf ∈ zWS ∧ Cond.initialized yX4_columnOf.cls ∈ zWS ∧ Cond.code yX4_columnOf iX4_columnOf.2.1 iX4_columnOf.2.2.1 iX4_columnOf.2.2.2.1 ∈ zWS := ⟨zt2 205 rfl rfl, zt2 206 rfl rfl, zt1 3 rfl rfl, zt2 207 rfl rfl⟩
theorem wf_RX6_165 : Cond.fieldLink RX6 165 (TX0 9).1 (TX0 9).2.1 (TX0 9).2.2.1 ∈ zWS := zt1 68 rfl rfl
theorem wf_RX6_168 : Cond.fieldLink RX6 168 (TX0 0).1 (TX0 0).2.1 (TX0 0).2.2.1 ∈ zWS := zt1 38 rfl rfl
theorem wf_RX6_170 : Cond.fieldLink RX6 170 (TX4 2).1 (TX4 2).2.1 (TX4 2).2.2.1 ∈ zWS := zt1 117 rfl rfl
theorem wf_RX6_174 : Cond.fieldLink RX6 174 (TX4 3).1 (TX4 3).2.1 (TX4 3).2.2.1 ∈ zWS := zt1 119 rfl rfl
theorem wm_RX6_177 : Cond.methodLink RX6 177 yX4_endOf ∈ zWS := zt2 213 rfl rfl
theorem wm_RX6_181 : Cond.methodLink RX6 181 yX4_firstToEnd ∈ zWS := zt2 221 rfl rfl
theorem wc_X4_firstToEnd : Cond.instanceMethod yX4_firstToEnd ∈ zWS ∧ Cond.selects RX4 yX4_firstToEnd yX4_firstToEnd ∈ zWS ∧ Cond.initialized yX4_firstToEnd.cls ∈ zWS ∧ Cond.code yX4_firstToEnd iX4_firstToEnd.2.1 iX4_firstToEnd.2.2.1 iX4_firstToEnd.2.2.2.1 ∈ zWS := ⟨zt2 222 rfl rfl, zt2 223 rfl rfl, zt1 3 rfl rfl, zt2 224 rfl rfl⟩
theorem wm_RX6_184 : Cond.methodLink RX6 184 yX4_lastToEnd ∈ zWS := zt2 226 rfl rfl
theorem wc_X4_lastToEnd : Cond.instanceMethod yX4_lastToEnd ∈ zWS ∧ Cond.selects RX4 yX4_lastToEnd yX4_lastToEnd ∈ zWS ∧ Cond.initialized yX4_lastToEnd.cls ∈ zWS ∧ Cond.code yX4_lastToEnd iX4_lastToEnd.2.1 iX4_lastToEnd.2.2.1 iX4_lastToEnd.2.2.2.1 ∈ zWS := ⟨zt2 227 rfl rfl, zt2 228 rfl rfl, zt1 3 rfl rfl, zt2 229 rfl rfl⟩
theorem wm_RX6_187 : Cond.methodLink RX6 187 yX4_endsApart ∈ zWS := zt2 230 rfl rfl
theorem wm_RX6_190 : Cond.methodLink RX6 190 yX4_raggedInAll ∈ zWS := zt3 2 rfl rfl
theorem wm_RX6_193 : Cond.methodLink RX6 193 yX4_brokenTies ∈ zWS := zt3 10 rfl rfl
theorem wm_RX6_196 : Cond.methodLink RX6 196 yX2_tell__ ∈ zWS := zt3 21 rfl rfl
theorem wm_RX6_199 : Cond.methodLink RX6 199 yX4_costOf ∈ zWS := zt3 22 rfl rfl
theorem wm_RX6_202 : Cond.methodLink RX6 202 yX2_noughts ∈ zWS := zt3 33 rfl rfl
theorem wc_X2_noughts : Cond.instanceMethod yX2_noughts ∈ zWS ∧ Cond.selects RX2 yX2_noughts yX2_noughts ∈ zWS ∧ Cond.initialized yX2_noughts.cls ∈ zWS ∧ Cond.code yX2_noughts iX2_noughts.2.1 iX2_noughts.2.2.1 iX2_noughts.2.2.2.1 ∈ zWS := ⟨zt3 34 rfl rfl, zt3 35 rfl rfl, zt1 7 rfl rfl, zt3 36 rfl rfl⟩
theorem wm_RX6_206 : Cond.methodLink RX6 206 yX2_put ∈ zWS := zt3 39 rfl rfl
theorem wc_X2_put : Cond.instanceMethod yX2_put ∈ zWS ∧ Cond.selects RX2 yX2_put yX2_put ∈ zWS ∧ Cond.initialized yX2_put.cls ∈ zWS ∧ Cond.code yX2_put iX2_put.2.1 iX2_put.2.2.1 iX2_put.2.2.2.1 ∈ zWS := ⟨zt3 40 rfl rfl, zt3 41 rfl rfl, zt1 7 rfl rfl, zt3 42 rfl rfl⟩
theorem wm_RX6_210 : Cond.methodLink RX6 210 yX4_lettersFrom ∈ zWS := zt3 47 rfl rfl
theorem wc_X4_lettersFrom : Cond.instanceMethod yX4_lettersFrom ∈ zWS ∧ Cond.selects RX4 yX4_lettersFrom yX4_lettersFrom ∈ zWS ∧ Cond.initialized yX4_lettersFrom.cls ∈ zWS ∧ Cond.code yX4_lettersFrom iX4_lettersFrom.2.1 iX4_lettersFrom.2.2.1 iX4_lettersFrom.2.2.2.1 ∈ zWS := ⟨zt3 48 rfl rfl, zt3 49 rfl rfl, zt1 3 rfl rfl, zt3 50 rfl rfl⟩
theorem wm_RX6_216 : Cond.methodLink RX6 216 yX4_deepOf ∈ zWS := zt3 55 rfl rfl
theorem wm_RX6_219 : Cond.methodLink RX6 219 yX6_isBroken ∈ zWS := zt3 56 rfl rfl
theorem wf_RX6_222 : Cond.fieldLink RX6 222 (TX0 10).1 (TX0 10).2.1 (TX0 10).2.2.1 ∈ zWS := zt1 71 rfl rfl
theorem wf_RX6_225 : Cond.fieldLink RX6 225 (TX0 11).1 (TX0 11).2.1 (TX0 11).2.2.1 ∈ zWS := zt1 74 rfl rfl
theorem wf_RX6_228 : Cond.fieldLink RX6 228 (TX0 12).1 (TX0 12).2.1 (TX0 12).2.2.1 ∈ zWS := zt1 77 rfl rfl
theorem wm_RX6_237 : Cond.methodLink RX6 237 yX0_allows ∈ zWS := zt3 65 rfl rfl
theorem wm_RX6_243 : Cond.methodLink RX6 243 yX0_plan ∈ zWS := zt3 69 rfl rfl
theorem wm_RX6_246 : Cond.methodLink RX6 246 yX6_isGrid ∈ zWS := zt3 74 rfl rfl
theorem wc_X6_isGrid : Cond.static yX6_isGrid ∈ zWS ∧ Cond.initialized yX6_isGrid.cls ∈ zWS ∧ Cond.code yX6_isGrid iX6_isGrid.2.1 iX6_isGrid.2.2.1 iX6_isGrid.2.2.2.1 ∈ zWS := ⟨zt3 75 rfl rfl, zt1 1 rfl rfl, zt3 76 rfl rfl⟩
theorem wf_RX6_29 : Cond.fieldLink RX6 29 (TX6 3).1 (TX6 3).2.1 (TX6 3).2.2.1 ∈ zWS := zt1 233 rfl rfl
theorem wm_RX6_249 : Cond.methodLink RX6 249 yX3_findBest ∈ zWS := zt3 77 rfl rfl
theorem wc_X3_findBest : Cond.instanceMethod yX3_findBest ∈ zWS ∧ Cond.selects RX3 yX3_findBest yX3_findBest ∈ zWS ∧ Cond.initialized yX3_findBest.cls ∈ zWS ∧ Cond.code yX3_findBest iX3_findBest.2.1 iX3_findBest.2.2.1 iX3_findBest.2.2.2.1 ∈ zWS := ⟨zt3 78 rfl rfl, zt3 79 rfl rfl, zt1 4 rfl rfl, zt3 80 rfl rfl⟩
theorem wf_RX6_253 : Cond.fieldLink RX6 253 (TX3 0).1 (TX3 0).2.1 (TX3 0).2.2.1 ∈ zWS := zt1 159 rfl rfl
theorem wf_RX6_256 : Cond.fieldLink RX6 256 (TX3 1).1 (TX3 1).2.1 (TX3 1).2.2.1 ∈ zWS := zt1 161 rfl rfl
theorem wf_RX6_259 : Cond.fieldLink RX6 259 (TX3 2).1 (TX3 2).2.1 (TX3 2).2.2.1 ∈ zWS := zt1 163 rfl rfl
theorem wf_RX6_262 : Cond.fieldLink RX6 262 (TX3 4).1 (TX3 4).2.1 (TX3 4).2.2.1 ∈ zWS := zt1 167 rfl rfl
theorem wf_RX6_265 : Cond.fieldLink RX6 265 (TX3 3).1 (TX3 3).2.1 (TX3 3).2.2.1 ∈ zWS := zt1 165 rfl rfl
theorem wm_RX6_268 : Cond.methodLink RX6 268 yX3_findNear ∈ zWS := zt3 97 rfl rfl
theorem wc_X3_findNear : Cond.instanceMethod yX3_findNear ∈ zWS ∧ Cond.selects RX3 yX3_findNear yX3_findNear ∈ zWS ∧ Cond.initialized yX3_findNear.cls ∈ zWS ∧ Cond.code yX3_findNear iX3_findNear.2.1 iX3_findNear.2.2.1 iX3_findNear.2.2.2.1 ∈ zWS := ⟨zt3 98 rfl rfl, zt3 99 rfl rfl, zt1 4 rfl rfl, zt3 100 rfl rfl⟩
theorem wm_RX6_272 : Cond.methodLink RX6 272 yX2_clear ∈ zWS := zt3 102 rfl rfl
theorem wc_X2_clear : Cond.instanceMethod yX2_clear ∈ zWS ∧ Cond.selects RX2 yX2_clear yX2_clear ∈ zWS ∧ Cond.initialized yX2_clear.cls ∈ zWS ∧ Cond.code yX2_clear iX2_clear.2.1 iX2_clear.2.2.1 iX2_clear.2.2.2.1 ∈ zWS := ⟨zt3 103 rfl rfl, zt3 104 rfl rfl, zt1 7 rfl rfl, zt3 105 rfl rfl⟩
theorem wm_RX6_273 : Cond.methodLink RX6 273 yX3_climb ∈ zWS := zt3 110 rfl rfl
theorem wc_X3_climb : Cond.instanceMethod yX3_climb ∈ zWS ∧ Cond.selects RX3 yX3_climb yX3_climb ∈ zWS ∧ Cond.initialized yX3_climb.cls ∈ zWS ∧ Cond.code yX3_climb iX3_climb.2.1 iX3_climb.2.2.1 iX3_climb.2.2.2.1 ∈ zWS := ⟨zt3 111 rfl rfl, zt3 112 rfl rfl, zt1 4 rfl rfl, zt3 113 rfl rfl⟩
theorem wg_RX6_370 : Cond.fieldLink RX6 370 "RingedPage" (zsn 0) "[I" ∈ zWS := zt3 133 rfl rfl
theorem wg_RX6_373 : Cond.fieldLink RX6 373 "RingedPage" (zsn 1) "[I" ∈ zWS := zt3 135 rfl rfl
theorem wm_RX6_379 : Cond.methodLink RX6 379 yX0_setMeasure ∈ zWS := zt3 137 rfl rfl
theorem wc_X0_setMeasure : Cond.instanceMethod yX0_setMeasure ∈ zWS ∧ Cond.selects RX0 yX0_setMeasure yX0_setMeasure ∈ zWS ∧ Cond.initialized yX0_setMeasure.cls ∈ zWS ∧ Cond.code yX0_setMeasure iX0_setMeasure.2.1 iX0_setMeasure.2.2.1 iX0_setMeasure.2.2.2.1 ∈ zWS := ⟨zt3 138 rfl rfl, zt3 139 rfl rfl, zt1 2 rfl rfl, zt3 140 rfl rfl⟩
theorem wm_RX6_382 : Cond.methodLink RX6 382 yX0_allowsItsPlan ∈ zWS := zt3 141 rfl rfl
theorem wc_X0_allowsItsPlan : Cond.instanceMethod yX0_allowsItsPlan ∈ zWS ∧ Cond.selects RX0 yX0_allowsItsPlan yX0_allowsItsPlan ∈ zWS ∧ Cond.initialized yX0_allowsItsPlan.cls ∈ zWS ∧ Cond.code yX0_allowsItsPlan iX0_allowsItsPlan.2.1 iX0_allowsItsPlan.2.2.1 iX0_allowsItsPlan.2.2.2.1 ∈ zWS := ⟨zt3 142 rfl rfl, zt3 143 rfl rfl, zt1 2 rfl rfl, zt3 144 rfl rfl⟩
theorem wm_RX6_277 : Cond.methodLink RX6 277 yX6_leastMeasure ∈ zWS := zt3 129 rfl rfl
theorem wc_X6_leastMeasure : Cond.instanceMethod yX6_leastMeasure ∈ zWS ∧ Cond.selects RX6 yX6_leastMeasure yX6_leastMeasure ∈ zWS ∧ Cond.initialized yX6_leastMeasure.cls ∈ zWS ∧ Cond.code yX6_leastMeasure iX6_leastMeasure.2.1 iX6_leastMeasure.2.2.1 iX6_leastMeasure.2.2.2.1 ∈ zWS := ⟨zt3 131 rfl rfl, zp1 11 rfl rfl, zt1 1 rfl rfl, zt3 132 rfl rfl⟩
theorem wm_RX6_290 : Cond.methodLink RX6 290 yX0_put ∈ zWS := zt3 156 rfl rfl
theorem wc_X0_put : Cond.instanceMethod yX0_put ∈ zWS ∧ Cond.selects RX0 yX0_put yX0_put ∈ zWS ∧ Cond.initialized yX0_put.cls ∈ zWS ∧ Cond.code yX0_put iX0_put.2.1 iX0_put.2.2.1 iX0_put.2.2.2.1 ∈ zWS := ⟨zt3 157 rfl rfl, zt3 158 rfl rfl, zt1 2 rfl rfl, zt3 159 rfl rfl⟩
theorem wm_RX6_280 : Cond.methodLink RX6 280 yX6_putWord ∈ zWS := zt3 153 rfl rfl
theorem wc_X6_putWord : Cond.static yX6_putWord ∈ zWS ∧ Cond.initialized yX6_putWord.cls ∈ zWS ∧ Cond.code yX6_putWord iX6_putWord.2.1 iX6_putWord.2.2.1 iX6_putWord.2.2.2.1 ∈ zWS := ⟨zt3 154 rfl rfl, zt1 1 rfl rfl, zt3 155 rfl rfl⟩
theorem wm_RX6_284 : Cond.methodLink RX6 284 yX6_trialCost ∈ zWS := zt3 164 rfl rfl
theorem wc_X6_trialCost : Cond.instanceMethod yX6_trialCost ∈ zWS ∧ Cond.selects RX6 yX6_trialCost yX6_trialCost ∈ zWS ∧ Cond.initialized yX6_trialCost.cls ∈ zWS ∧ Cond.code yX6_trialCost iX6_trialCost.2.1 iX6_trialCost.2.2.1 iX6_trialCost.2.2.2.1 ∈ zWS := ⟨zt3 166 rfl rfl, zp1 13 rfl rfl, zt1 1 rfl rfl, zt3 167 rfl rfl⟩
theorem wm_RX6_392 : Cond.methodLink RX6 392 yX0_drop ∈ zWS := zt3 175 rfl rfl
theorem wc_X0_drop : Cond.instanceMethod yX0_drop ∈ zWS ∧ Cond.selects RX0 yX0_drop yX0_drop ∈ zWS ∧ Cond.initialized yX0_drop.cls ∈ zWS ∧ Cond.code yX0_drop iX0_drop.2.1 iX0_drop.2.2.1 iX0_drop.2.2.2.1 ∈ zWS := ⟨zt3 176 rfl rfl, zt3 177 rfl rfl, zt1 2 rfl rfl, zt3 178 rfl rfl⟩
theorem wm_RX6_287 : Cond.methodLink RX6 287 yX6_dropWord ∈ zWS := zt3 172 rfl rfl
theorem wc_X6_dropWord : Cond.static yX6_dropWord ∈ zWS ∧ Cond.initialized yX6_dropWord.cls ∈ zWS ∧ Cond.code yX6_dropWord iX6_dropWord.2.1 iX6_dropWord.2.2.1 iX6_dropWord.2.2.2.1 ∈ zWS := ⟨zt3 173 rfl rfl, zt1 1 rfl rfl, zt3 174 rfl rfl⟩
theorem wm_RX6_376 : Cond.methodLink RX6 376 yX0_measure ∈ zWS := zt3 191 rfl rfl
theorem wc_X0_measure : Cond.instanceMethod yX0_measure ∈ zWS ∧ Cond.selects RX0 yX0_measure yX0_measure ∈ zWS ∧ Cond.initialized yX0_measure.cls ∈ zWS ∧ Cond.code yX0_measure iX0_measure.2.1 iX0_measure.2.2.1 iX0_measure.2.2.2.1 ∈ zWS := ⟨zt3 192 rfl rfl, zt3 193 rfl rfl, zt1 2 rfl rfl, zt3 194 rfl rfl⟩
theorem wm_RX6_291 : Cond.methodLink RX6 291 yX6_setMeasure ∈ zWS := zt3 187 rfl rfl
theorem wc_X6_setMeasure : Cond.instanceMethod yX6_setMeasure ∈ zWS ∧ Cond.selects RX6 yX6_setMeasure yX6_setMeasure ∈ zWS ∧ Cond.initialized yX6_setMeasure.cls ∈ zWS ∧ Cond.code yX6_setMeasure iX6_setMeasure.2.1 iX6_setMeasure.2.2.1 iX6_setMeasure.2.2.2.1 ∈ zWS := ⟨zt3 189 rfl rfl, zp1 14 rfl rfl, zt1 1 rfl rfl, zt3 190 rfl rfl⟩
theorem wg_RX6_294 : Cond.fieldLink RX6 294 "RingedPage" (zsn 2) "[I" ∈ zWS := zt3 199 rfl rfl
theorem wf_RX6_297 : Cond.fieldLink RX6 297 (TX0 7).1 (TX0 7).2.1 (TX0 7).2.2.1 ∈ zWS := zt1 62 rfl rfl
theorem wm_RX6_386 : Cond.methodLink RX6 386 yX0_swap ∈ zWS := zt3 209 rfl rfl
theorem wc_X0_swap : Cond.instanceMethod yX0_swap ∈ zWS ∧ Cond.selects RX0 yX0_swap yX0_swap ∈ zWS ∧ Cond.initialized yX0_swap.cls ∈ zWS ∧ Cond.code yX0_swap iX0_swap.2.1 iX0_swap.2.2.1 iX0_swap.2.2.2.1 ∈ zWS := ⟨zt3 210 rfl rfl, zt3 211 rfl rfl, zt1 2 rfl rfl, zt3 212 rfl rfl⟩
theorem wm_RX6_300 : Cond.methodLink RX6 300 yX6_swapComments ∈ zWS := zt3 205 rfl rfl
theorem wc_X6_swapComments : Cond.instanceMethod yX6_swapComments ∈ zWS ∧ Cond.selects RX6 yX6_swapComments yX6_swapComments ∈ zWS ∧ Cond.initialized yX6_swapComments.cls ∈ zWS ∧ Cond.code yX6_swapComments iX6_swapComments.2.1 iX6_swapComments.2.2.1 iX6_swapComments.2.2.2.1 ∈ zWS := ⟨zt3 207 rfl rfl, zp1 15 rfl rfl, zt1 1 rfl rfl, zt3 208 rfl rfl⟩
theorem wm_RX6_389 : Cond.methodLink RX6 389 yX0_hasPlan ∈ zWS := zt3 221 rfl rfl
theorem wc_X0_hasPlan : Cond.instanceMethod yX0_hasPlan ∈ zWS ∧ Cond.selects RX0 yX0_hasPlan yX0_hasPlan ∈ zWS ∧ Cond.initialized yX0_hasPlan.cls ∈ zWS ∧ Cond.code yX0_hasPlan iX0_hasPlan.2.1 iX0_hasPlan.2.2.1 iX0_hasPlan.2.2.2.1 ∈ zWS := ⟨zt3 222 rfl rfl, zt3 223 rfl rfl, zt1 2 rfl rfl, zt3 224 rfl rfl⟩
theorem wf_RX6_344 : Cond.fieldLink RX6 344 (TX0 3).1 (TX0 3).2.1 (TX0 3).2.2.1 ∈ zWS := zt1 48 rfl rfl
theorem wf_RX6_345 : Cond.fieldLink RX6 345 (TX0 4).1 (TX0 4).2.1 (TX0 4).2.2.1 ∈ zWS := zt1 52 rfl rfl
theorem wf_RX6_346 : Cond.fieldLink RX6 346 (TX0 5).1 (TX0 5).2.1 (TX0 5).2.2.1 ∈ zWS := zt1 56 rfl rfl
theorem wm_RX6_303 : Cond.methodLink RX6 303 yX6_setPlan ∈ zWS := zt3 217 rfl rfl
theorem wc_X6_setPlan : Cond.instanceMethod yX6_setPlan ∈ zWS ∧ Cond.selects RX6 yX6_setPlan yX6_setPlan ∈ zWS ∧ Cond.initialized yX6_setPlan.cls ∈ zWS ∧ Cond.code yX6_setPlan iX6_setPlan.2.1 iX6_setPlan.2.2.1 iX6_setPlan.2.2.2.1 ∈ zWS := ⟨zt3 219 rfl rfl, zp2 0 rfl rfl, zt1 1 rfl rfl, zt3 220 rfl rfl⟩
theorem wm_RX6_307 : Cond.methodLink RX6 307 yX6_setBest ∈ zWS := zt3 229 rfl rfl
theorem wc_X6_setBest : Cond.instanceMethod yX6_setBest ∈ zWS ∧ Cond.selects RX6 yX6_setBest yX6_setBest ∈ zWS ∧ Cond.initialized yX6_setBest.cls ∈ zWS ∧ Cond.code yX6_setBest iX6_setBest.2.1 iX6_setBest.2.2.1 iX6_setBest.2.2.2.1 ∈ zWS := ⟨zt3 231 rfl rfl, zp2 1 rfl rfl, zt1 1 rfl rfl, zt3 232 rfl rfl⟩
theorem wm_RX6_319 : Cond.methodLink RX6 319 yX6_digitsOf ∈ zWS := zt4 9 rfl rfl
theorem wc_X6_digitsOf : Cond.static yX6_digitsOf ∈ zWS ∧ Cond.initialized yX6_digitsOf.cls ∈ zWS ∧ Cond.code yX6_digitsOf iX6_digitsOf.2.1 iX6_digitsOf.2.2.1 iX6_digitsOf.2.2.2.1 ∈ zWS := ⟨zt4 10 rfl rfl, zt1 1 rfl rfl, zt4 11 rfl rfl⟩
theorem wm_RX6_310 : Cond.methodLink RX6 310 yX6_faultOfDay ∈ zWS := zt4 5 rfl rfl
theorem wc_X6_faultOfDay : Cond.instanceMethod yX6_faultOfDay ∈ zWS ∧ Cond.selects RX6 yX6_faultOfDay yX6_faultOfDay ∈ zWS ∧ Cond.initialized yX6_faultOfDay.cls ∈ zWS ∧ Cond.code yX6_faultOfDay iX6_faultOfDay.2.1 iX6_faultOfDay.2.2.1 iX6_faultOfDay.2.2.2.1 ∈ zWS := ⟨zt4 7 rfl rfl, zp2 2 rfl rfl, zt1 1 rfl rfl, zt4 8 rfl rfl⟩
theorem wm_RX6_313 : Cond.methodLink RX6 313 yX6_doAct ∈ zWS := zt4 12 rfl rfl
theorem wc_X6_doAct : Cond.instanceMethod yX6_doAct ∈ zWS ∧ Cond.selects RX6 yX6_doAct yX6_doAct ∈ zWS ∧ Cond.initialized yX6_doAct.cls ∈ zWS ∧ Cond.code yX6_doAct iX6_doAct.2.1 iX6_doAct.2.2.1 iX6_doAct.2.2.2.1 ∈ zWS := ⟨zt4 14 rfl rfl, zp2 3 rfl rfl, zt1 1 rfl rfl, zt4 15 rfl rfl⟩
theorem wm_RX6_322 : Cond.methodLink RX6 322 Lib.Math.max.name ∈ zWS := zt4 16 rfl rfl
theorem wm_RX6_330 : Cond.methodLink RX6 330 yX1_takeBack ∈ zWS := zt4 21 rfl rfl
theorem wc_X1_takeBack : Cond.instanceMethod yX1_takeBack ∈ zWS ∧ Cond.selects RX1 yX1_takeBack yX1_takeBack ∈ zWS ∧ Cond.initialized yX1_takeBack.cls ∈ zWS ∧ Cond.code yX1_takeBack iX1_takeBack.2.1 iX1_takeBack.2.2.1 iX1_takeBack.2.2.2.1 ∈ zWS := ⟨zt4 22 rfl rfl, zt4 23 rfl rfl, zt1 5 rfl rfl, zt4 24 rfl rfl⟩
theorem wf_RX6_334 : Cond.fieldLink RX6 334 (TX1 2).1 (TX1 2).2.1 (TX1 2).2.2.1 ∈ zWS := zt1 191 rfl rfl
theorem wk_RX6_395 : Cond.constant RX6 395 (1103515245) ∈ zWS := zt4 32 rfl rfl
theorem wm_RX6_335 : Cond.methodLink RX6 335 yX6_nextDraw ∈ zWS := zt4 29 rfl rfl
theorem wc_X6_nextDraw : Cond.static yX6_nextDraw ∈ zWS ∧ Cond.initialized yX6_nextDraw.cls ∈ zWS ∧ Cond.code yX6_nextDraw iX6_nextDraw.2.1 iX6_nextDraw.2.2.1 iX6_nextDraw.2.2.2.1 ∈ zWS := ⟨zt4 30 rfl rfl, zt1 1 rfl rfl, zt4 31 rfl rfl⟩
theorem wm_RX6_338 : Cond.methodLink RX6 338 yX6_drawn ∈ zWS := zt4 33 rfl rfl
theorem wc_X6_drawn : Cond.static yX6_drawn ∈ zWS ∧ Cond.initialized yX6_drawn.cls ∈ zWS ∧ Cond.code yX6_drawn iX6_drawn.2.1 iX6_drawn.2.2.1 iX6_drawn.2.2.2.1 ∈ zWS := ⟨zt4 34 rfl rfl, zt1 1 rfl rfl, zt4 35 rfl rfl⟩
theorem wf_RX6_40 : Cond.fieldLink RX6 40 (TX6 5).1 (TX6 5).2.1 (TX6 5).2.2.1 ∈ zWS := zt1 235 rfl rfl
theorem wf_RX6_44 : Cond.fieldLink RX6 44 (TX6 6).1 (TX6 6).2.1 (TX6 6).2.2.1 ∈ zWS := zt1 236 rfl rfl
theorem wm_RX6_341 : Cond.methodLink RX6 341 yX1_forget ∈ zWS := zt4 44 rfl rfl
theorem wc_X1_forget : Cond.instanceMethod yX1_forget ∈ zWS ∧ Cond.selects RX1 yX1_forget yX1_forget ∈ zWS ∧ Cond.initialized yX1_forget.cls ∈ zWS ∧ Cond.code yX1_forget iX1_forget.2.1 iX1_forget.2.2.1 iX1_forget.2.2.2.1 ∈ zWS := ⟨zt4 45 rfl rfl, zt4 46 rfl rfl, zt1 5 rfl rfl, zt4 47 rfl rfl⟩
theorem wf_RX6_347 : Cond.fieldLink RX6 347 (TX2 1).1 (TX2 1).2.1 (TX2 1).2.2.1 ∈ zWS := zt1 223 rfl rfl
theorem wf_RX6_348 : Cond.fieldLink RX6 348 (TX0 2).1 (TX0 2).2.1 (TX0 2).2.2.1 ∈ zWS := zt1 44 rfl rfl
theorem wf_RX6_351 : Cond.fieldLink RX6 351 (TX2 0).1 (TX2 0).2.1 (TX2 0).2.2.1 ∈ zWS := zt1 221 rfl rfl
theorem wf_RX7_58 : Cond.fieldLink RX7 58 (TX7 5).1 (TX7 5).2.1 (TX7 5).2.2.1 ∈ zWS := zt4 146 rfl rfl
theorem wf_RX7_17 : Cond.fieldLink RX7 17 (TX7 3).1 (TX7 3).2.1 (TX7 3).2.2.1 ∈ zWS := zt4 144 rfl rfl
theorem wf_RX7_62 : Cond.fieldLink RX7 62 (TX7 4).1 (TX7 4).2.1 (TX7 4).2.2.1 ∈ zWS := zt4 145 rfl rfl
theorem wm_RX7_65 : Cond.methodLink RX7 65 yX7_in ∈ zWS := zt4 239 rfl rfl
theorem wc_X7_in : Cond.static yX7_in ∈ zWS ∧ Cond.initialized yX7_in.cls ∈ zWS ∧ Cond.code yX7_in iX7_in.2.1 iX7_in.2.2.1 iX7_in.2.2.2.1 ∈ zWS := ⟨zt5 0 rfl rfl, zt1 8 rfl rfl, zt5 1 rfl rfl⟩
theorem wm_RX7_69 : Cond.methodLink RX7 69 yX7_isText ∈ zWS := zt5 10 rfl rfl
theorem wc_X7_isText : Cond.static yX7_isText ∈ zWS ∧ Cond.initialized yX7_isText.cls ∈ zWS ∧ Cond.code yX7_isText iX7_isText.2.1 iX7_isText.2.2.1 iX7_isText.2.2.2.1 ∈ zWS := ⟨zt5 11 rfl rfl, zt1 8 rfl rfl, zt5 12 rfl rfl⟩
theorem wf_RX7_9 : Cond.fieldLink RX7 9 (TX7 0).1 (TX7 0).2.1 (TX7 0).2.2.1 ∈ zWS := zt4 141 rfl rfl
theorem wf_RX7_73 : Cond.fieldLink RX7 73 (TX7 2).1 (TX7 2).2.1 (TX7 2).2.2.1 ∈ zWS := zt4 143 rfl rfl
theorem wf_RX7_13 : Cond.fieldLink RX7 13 (TX7 1).1 (TX7 1).2.1 (TX7 1).2.2.1 ∈ zWS := zt4 142 rfl rfl
theorem wf_RX7_76 : Cond.fieldLink RX7 76 (TX7 6).1 (TX7 6).2.1 (TX7 6).2.2.1 ∈ zWS := zt4 147 rfl rfl
theorem wf_RX7_79 : Cond.fieldLink RX7 79 (TX7 7).1 (TX7 7).2.1 (TX7 7).2.2.1 ∈ zWS := zt4 148 rfl rfl
theorem wf_RX7_82 : Cond.fieldLink RX7 82 (TX7 8).1 (TX7 8).2.1 (TX7 8).2.2.1 ∈ zWS := zt4 149 rfl rfl
theorem wm_RX7_85 : Cond.methodLink RX7 85 yX7_fine ∈ zWS := zt5 13 rfl rfl
theorem wc_X7_fine : Cond.instanceMethod yX7_fine ∈ zWS ∧ Cond.selects RX7 yX7_fine yX7_fine ∈ zWS ∧ Cond.initialized yX7_fine.cls ∈ zWS ∧ Cond.code yX7_fine iX7_fine.2.1 iX7_fine.2.2.1 iX7_fine.2.2.2.1 ∈ zWS := ⟨zt5 15 rfl rfl, zp2 6 rfl rfl, zt1 8 rfl rfl, zt5 16 rfl rfl⟩
theorem wm_RX7_89 : Cond.methodLink RX7 89 yX7_here ∈ zWS := zt5 25 rfl rfl
theorem wc_X7_here : Cond.instanceMethod yX7_here ∈ zWS ∧ Cond.selects RX7 yX7_here yX7_here ∈ zWS ∧ Cond.initialized yX7_here.cls ∈ zWS ∧ Cond.code yX7_here iX7_here.2.1 iX7_here.2.2.1 iX7_here.2.2.2.1 ∈ zWS := ⟨zt5 27 rfl rfl, zp2 9 rfl rfl, zt1 8 rfl rfl, zt5 28 rfl rfl⟩
theorem wm_RX7_93 : Cond.methodLink RX7 93 yX7_fault ∈ zWS := zt5 17 rfl rfl
theorem wc_X7_fault : Cond.instanceMethod yX7_fault ∈ zWS ∧ Cond.selects RX7 yX7_fault yX7_fault ∈ zWS ∧ Cond.initialized yX7_fault.cls ∈ zWS ∧ Cond.code yX7_fault iX7_fault.2.1 iX7_fault.2.2.1 iX7_fault.2.2.2.1 ∈ zWS := ⟨zt5 19 rfl rfl, zp2 7 rfl rfl, zt1 8 rfl rfl, zt5 20 rfl rfl⟩
theorem wm_RX7_97 : Cond.methodLink RX7 97 yX7_oneOf ∈ zWS := zt5 21 rfl rfl
theorem wc_X7_oneOf : Cond.instanceMethod yX7_oneOf ∈ zWS ∧ Cond.selects RX7 yX7_oneOf yX7_oneOf ∈ zWS ∧ Cond.initialized yX7_oneOf.cls ∈ zWS ∧ Cond.code yX7_oneOf iX7_oneOf.2.1 iX7_oneOf.2.2.1 iX7_oneOf.2.2.2.1 ∈ zWS := ⟨zt5 23 rfl rfl, zp2 8 rfl rfl, zt1 8 rfl rfl, zt5 24 rfl rfl⟩
theorem wf_RX7_48 : Cond.fieldLink RX7 48 (TX7 23).1 (TX7 23).2.1 (TX7 23).2.2.1 ∈ zWS := zt4 164 rfl rfl
theorem wf_RX7_276 : Cond.fieldLink RX7 276 (TX7 24).1 (TX7 24).2.1 (TX7 24).2.2.1 ∈ zWS := zt4 165 rfl rfl
theorem wf_RX7_45 : Cond.fieldLink RX7 45 (TX7 22).1 (TX7 22).2.1 (TX7 22).2.2.1 ∈ zWS := zt4 163 rfl rfl
theorem wm_RX7_279 : Cond.methodLink RX7 279 yX7_lay ∈ zWS := zt5 37 rfl rfl
theorem wc_X7_lay : Cond.instanceMethod yX7_lay ∈ zWS ∧ Cond.selects RX7 yX7_lay yX7_lay ∈ zWS ∧ Cond.initialized yX7_lay.cls ∈ zWS ∧ Cond.code yX7_lay iX7_lay.2.1 iX7_lay.2.2.1 iX7_lay.2.2.2.1 ∈ zWS := ⟨zt5 39 rfl rfl, zp2 12 rfl rfl, zt1 8 rfl rfl, zt5 40 rfl rfl⟩
theorem wm_RX7_282 : Cond.methodLink RX7 282 yX7_note ∈ zWS := zt5 41 rfl rfl
theorem wc_X7_note : Cond.instanceMethod yX7_note ∈ zWS ∧ Cond.selects RX7 yX7_note yX7_note ∈ zWS ∧ Cond.initialized yX7_note.cls ∈ zWS ∧ Cond.code yX7_note iX7_note.2.1 iX7_note.2.2.1 iX7_note.2.2.2.1 ∈ zWS := ⟨zt5 43 rfl rfl, zp2 13 rfl rfl, zt1 8 rfl rfl, zt5 44 rfl rfl⟩
theorem wm_RX7_101 : Cond.methodLink RX7 101 yX7_begin ∈ zWS := zt5 6 rfl rfl
theorem wc_X7_begin : Cond.instanceMethod yX7_begin ∈ zWS ∧ Cond.selects RX7 yX7_begin yX7_begin ∈ zWS ∧ Cond.initialized yX7_begin.cls ∈ zWS ∧ Cond.code yX7_begin iX7_begin.2.1 iX7_begin.2.2.1 iX7_begin.2.2.2.1 ∈ zWS := ⟨zt5 8 rfl rfl, zp2 5 rfl rfl, zt1 8 rfl rfl, zt5 9 rfl rfl⟩
theorem wf_RX7_21 : Cond.fieldLink RX7 21 (TX7 9).1 (TX7 9).2.1 (TX7 9).2.2.1 ∈ zWS := zt4 150 rfl rfl
theorem wm_RX7_104 : Cond.methodLink RX7 104 yX7_wasRight ∈ zWS := zt5 29 rfl rfl
theorem wc_X7_wasRight : Cond.instanceMethod yX7_wasRight ∈ zWS ∧ Cond.selects RX7 yX7_wasRight yX7_wasRight ∈ zWS ∧ Cond.initialized yX7_wasRight.cls ∈ zWS ∧ Cond.code yX7_wasRight iX7_wasRight.2.1 iX7_wasRight.2.2.1 iX7_wasRight.2.2.2.1 ∈ zWS := ⟨zt5 31 rfl rfl, zp2 10 rfl rfl, zt1 8 rfl rfl, zt5 32 rfl rfl⟩
theorem wm_RX7_107 : Cond.methodLink RX7 107 yX7_change ∈ zWS := zt5 33 rfl rfl
theorem wc_X7_change : Cond.instanceMethod yX7_change ∈ zWS ∧ Cond.selects RX7 yX7_change yX7_change ∈ zWS ∧ Cond.initialized yX7_change.cls ∈ zWS ∧ Cond.code yX7_change iX7_change.2.1 iX7_change.2.2.1 iX7_change.2.2.2.1 ∈ zWS := ⟨zt5 35 rfl rfl, zp2 11 rfl rfl, zt1 8 rfl rfl, zt5 36 rfl rfl⟩
theorem wm_RX7_110 : Cond.methodLink RX7 110 yX7_tied ∈ zWS := zt5 45 rfl rfl
theorem wc_X7_tied : Cond.instanceMethod yX7_tied ∈ zWS ∧ Cond.selects RX7 yX7_tied yX7_tied ∈ zWS ∧ Cond.initialized yX7_tied.cls ∈ zWS ∧ Cond.code yX7_tied iX7_tied.2.1 iX7_tied.2.2.1 iX7_tied.2.2.2.1 ∈ zWS := ⟨zt5 47 rfl rfl, zp2 14 rfl rfl, zt1 8 rfl rfl, zt5 48 rfl rfl⟩
theorem wm_RX7_114 : Cond.methodLink RX7 114 yX7_untie ∈ zWS := zt5 49 rfl rfl
theorem wc_X7_untie : Cond.instanceMethod yX7_untie ∈ zWS ∧ Cond.selects RX7 yX7_untie yX7_untie ∈ zWS ∧ Cond.initialized yX7_untie.cls ∈ zWS ∧ Cond.code yX7_untie iX7_untie.2.1 iX7_untie.2.2.1 iX7_untie.2.2.2.1 ∈ zWS := ⟨zt5 51 rfl rfl, zp2 15 rfl rfl, zt1 8 rfl rfl, zt5 52 rfl rfl⟩
theorem wm_RX7_117 : Cond.methodLink RX7 117 yX7_digits ∈ zWS := zt5 61 rfl rfl
theorem wc_X7_digits : Cond.instanceMethod yX7_digits ∈ zWS ∧ Cond.selects RX7 yX7_digits yX7_digits ∈ zWS ∧ Cond.initialized yX7_digits.cls ∈ zWS ∧ Cond.code yX7_digits iX7_digits.2.1 iX7_digits.2.2.1 iX7_digits.2.2.2.1 ∈ zWS := ⟨zt5 63 rfl rfl, zp3 1 rfl rfl, zt1 8 rfl rfl, zt5 64 rfl rfl⟩
theorem wm_RX7_121 : Cond.methodLink RX7 121 yX7_isWord ∈ zWS := zt5 65 rfl rfl
theorem wc_X7_isWord : Cond.instanceMethod yX7_isWord ∈ zWS ∧ Cond.selects RX7 yX7_isWord yX7_isWord ∈ zWS ∧ Cond.initialized yX7_isWord.cls ∈ zWS ∧ Cond.code yX7_isWord iX7_isWord.2.1 iX7_isWord.2.2.1 iX7_isWord.2.2.2.1 ∈ zWS := ⟨zt5 67 rfl rfl, zp3 2 rfl rfl, zt1 8 rfl rfl, zt5 68 rfl rfl⟩
theorem wm_RX7_125 : Cond.methodLink RX7 125 yX7_wasTied ∈ zWS := zt5 69 rfl rfl
theorem wc_X7_wasTied : Cond.instanceMethod yX7_wasTied ∈ zWS ∧ Cond.selects RX7 yX7_wasTied yX7_wasTied ∈ zWS ∧ Cond.initialized yX7_wasTied.cls ∈ zWS ∧ Cond.code yX7_wasTied iX7_wasTied.2.1 iX7_wasTied.2.2.1 iX7_wasTied.2.2.2.1 ∈ zWS := ⟨zt5 71 rfl rfl, zp3 3 rfl rfl, zt1 8 rfl rfl, zt5 72 rfl rfl⟩
theorem wm_RX7_128 : Cond.methodLink RX7 128 yX7_readTie ∈ zWS := zt5 57 rfl rfl
theorem wc_X7_readTie : Cond.instanceMethod yX7_readTie ∈ zWS ∧ Cond.selects RX7 yX7_readTie yX7_readTie ∈ zWS ∧ Cond.initialized yX7_readTie.cls ∈ zWS ∧ Cond.code yX7_readTie iX7_readTie.2.1 iX7_readTie.2.2.1 iX7_readTie.2.2.2.1 ∈ zWS := ⟨zt5 59 rfl rfl, zp3 0 rfl rfl, zt1 8 rfl rfl, zt5 60 rfl rfl⟩
theorem wm_RX7_131 : Cond.methodLink RX7 131 yX7_entryOf ∈ zWS := zt5 77 rfl rfl
theorem wc_X7_entryOf : Cond.static yX7_entryOf ∈ zWS ∧ Cond.initialized yX7_entryOf.cls ∈ zWS ∧ Cond.code yX7_entryOf iX7_entryOf.2.1 iX7_entryOf.2.2.1 iX7_entryOf.2.2.2.1 ∈ zWS := ⟨zt5 78 rfl rfl, zt1 8 rfl rfl, zt5 79 rfl rfl⟩
theorem wm_RX7_135 : Cond.methodLink RX7 135 yX7_tell ∈ zWS := zt5 80 rfl rfl
theorem wc_X7_tell : Cond.instanceMethod yX7_tell ∈ zWS ∧ Cond.selects RX7 yX7_tell yX7_tell ∈ zWS ∧ Cond.initialized yX7_tell.cls ∈ zWS ∧ Cond.code yX7_tell iX7_tell.2.1 iX7_tell.2.2.1 iX7_tell.2.2.2.1 ∈ zWS := ⟨zt5 82 rfl rfl, zp3 4 rfl rfl, zt1 8 rfl rfl, zt5 83 rfl rfl⟩
theorem wk_RX7_139 : Cond.constantLong RX7 139 (2) ∈ zWS := zt5 84 rfl rfl
theorem wf_RX7_30 : Cond.fieldLink RX7 30 (TX7 13).1 (TX7 13).2.1 (TX7 13).2.2.1 ∈ zWS := zt4 154 rfl rfl
theorem wm_RX7_141 : Cond.methodLink RX7 141 yX7_isLeft ∈ zWS := zt5 97 rfl rfl
theorem wc_X7_isLeft : Cond.instanceMethod yX7_isLeft ∈ zWS ∧ Cond.selects RX7 yX7_isLeft yX7_isLeft ∈ zWS ∧ Cond.initialized yX7_isLeft.cls ∈ zWS ∧ Cond.code yX7_isLeft iX7_isLeft.2.1 iX7_isLeft.2.2.1 iX7_isLeft.2.2.2.1 ∈ zWS := ⟨zt5 99 rfl rfl, zp3 7 rfl rfl, zt1 8 rfl rfl, zt5 100 rfl rfl⟩
theorem wf_RX7_144 : Cond.fieldLink RX7 144 (TX7 11).1 (TX7 11).2.1 (TX7 11).2.2.1 ∈ zWS := zt4 152 rfl rfl
theorem wf_RX7_24 : Cond.fieldLink RX7 24 (TX7 10).1 (TX7 10).2.1 (TX7 10).2.2.1 ∈ zWS := zt4 151 rfl rfl
theorem wm_RX7_147 : Cond.methodLink RX7 147 yX7_size ∈ zWS := zt5 109 rfl rfl
theorem wc_X7_size : Cond.instanceMethod yX7_size ∈ zWS ∧ Cond.selects RX7 yX7_size yX7_size ∈ zWS ∧ Cond.initialized yX7_size.cls ∈ zWS ∧ Cond.code yX7_size iX7_size.2.1 iX7_size.2.2.1 iX7_size.2.2.2.1 ∈ zWS := ⟨zt5 111 rfl rfl, zp3 10 rfl rfl, zt1 8 rfl rfl, zt5 112 rfl rfl⟩
theorem wf_RX7_27 : Cond.fieldLink RX7 27 (TX7 12).1 (TX7 12).2.1 (TX7 12).2.2.1 ∈ zWS := zt4 153 rfl rfl
theorem wm_RX7_150 : Cond.methodLink RX7 150 yX7_setPart ∈ zWS := zt5 105 rfl rfl
theorem wc_X7_setPart : Cond.instanceMethod yX7_setPart ∈ zWS ∧ Cond.selects RX7 yX7_setPart yX7_setPart ∈ zWS ∧ Cond.initialized yX7_setPart.cls ∈ zWS ∧ Cond.code yX7_setPart iX7_setPart.2.1 iX7_setPart.2.2.1 iX7_setPart.2.2.2.1 ∈ zWS := ⟨zt5 107 rfl rfl, zp3 9 rfl rfl, zt1 8 rfl rfl, zt5 108 rfl rfl⟩
theorem wf_RX7_154 : Cond.fieldLink RX7 154 (TX7 14).1 (TX7 14).2.1 (TX7 14).2.2.1 ∈ zWS := zt4 155 rfl rfl
theorem wm_RX7_157 : Cond.methodLink RX7 157 yX7_areLeft ∈ zWS := zt5 93 rfl rfl
theorem wc_X7_areLeft : Cond.instanceMethod yX7_areLeft ∈ zWS ∧ Cond.selects RX7 yX7_areLeft yX7_areLeft ∈ zWS ∧ Cond.initialized yX7_areLeft.cls ∈ zWS ∧ Cond.code yX7_areLeft iX7_areLeft.2.1 iX7_areLeft.2.2.1 iX7_areLeft.2.2.2.1 ∈ zWS := ⟨zt5 95 rfl rfl, zp3 6 rfl rfl, zt1 8 rfl rfl, zt5 96 rfl rfl⟩
theorem wm_RX7_160 : Cond.methodLink RX7 160 yX7_setLine ∈ zWS := zt5 101 rfl rfl
theorem wc_X7_setLine : Cond.instanceMethod yX7_setLine ∈ zWS ∧ Cond.selects RX7 yX7_setLine yX7_setLine ∈ zWS ∧ Cond.initialized yX7_setLine.cls ∈ zWS ∧ Cond.code yX7_setLine iX7_setLine.2.1 iX7_setLine.2.2.1 iX7_setLine.2.2.2.1 ∈ zWS := ⟨zt5 103 rfl rfl, zp3 8 rfl rfl, zt1 8 rfl rfl, zt5 104 rfl rfl⟩
theorem wm_RX7_164 : Cond.methodLink RX7 164 yX7_set ∈ zWS := zt5 89 rfl rfl
theorem wc_X7_set : Cond.instanceMethod yX7_set ∈ zWS ∧ Cond.selects RX7 yX7_set yX7_set ∈ zWS ∧ Cond.initialized yX7_set.cls ∈ zWS ∧ Cond.code yX7_set iX7_set.2.1 iX7_set.2.2.1 iX7_set.2.2.2.1 ∈ zWS := ⟨zt5 91 rfl rfl, zp3 5 rfl rfl, zt1 8 rfl rfl, zt5 92 rfl rfl⟩
theorem wm_RX7_167 : Cond.methodLink RX7 167 yX7_told ∈ zWS := zt5 113 rfl rfl
theorem wc_X7_told : Cond.instanceMethod yX7_told ∈ zWS ∧ Cond.selects RX7 yX7_told yX7_told ∈ zWS ∧ Cond.initialized yX7_told.cls ∈ zWS ∧ Cond.code yX7_told iX7_told.2.1 iX7_told.2.2.1 iX7_told.2.2.2.1 ∈ zWS := ⟨zt5 115 rfl rfl, zp3 11 rfl rfl, zt1 8 rfl rfl, zt5 116 rfl rfl⟩
theorem wm_RX7_170 : Cond.methodLink RX7 170 yX7_isLine ∈ zWS := zt5 121 rfl rfl
theorem wc_X7_isLine : Cond.instanceMethod yX7_isLine ∈ zWS ∧ Cond.selects RX7 yX7_isLine yX7_isLine ∈ zWS ∧ Cond.initialized yX7_isLine.cls ∈ zWS ∧ Cond.code yX7_isLine iX7_isLine.2.1 iX7_isLine.2.2.1 iX7_isLine.2.2.2.1 ∈ zWS := ⟨zt5 123 rfl rfl, zp3 12 rfl rfl, zt1 8 rfl rfl, zt5 124 rfl rfl⟩
theorem wm_RX7_173 : Cond.methodLink RX7 173 yX7_partAt ∈ zWS := zt5 125 rfl rfl
theorem wc_X7_partAt : Cond.instanceMethod yX7_partAt ∈ zWS ∧ Cond.selects RX7 yX7_partAt yX7_partAt ∈ zWS ∧ Cond.initialized yX7_partAt.cls ∈ zWS ∧ Cond.code yX7_partAt iX7_partAt.2.1 iX7_partAt.2.2.1 iX7_partAt.2.2.2.1 ∈ zWS := ⟨zt5 127 rfl rfl, zp3 13 rfl rfl, zt1 8 rfl rfl, zt5 128 rfl rfl⟩
theorem wm_RX7_177 : Cond.methodLink RX7 177 yX7_isLastPart ∈ zWS := zt5 141 rfl rfl
theorem wc_X7_isLastPart : Cond.instanceMethod yX7_isLastPart ∈ zWS ∧ Cond.selects RX7 yX7_isLastPart yX7_isLastPart ∈ zWS ∧ Cond.initialized yX7_isLastPart.cls ∈ zWS ∧ Cond.code yX7_isLastPart iX7_isLastPart.2.1 iX7_isLastPart.2.2.1 iX7_isLastPart.2.2.2.1 ∈ zWS := ⟨zt5 143 rfl rfl, zp4 0 rfl rfl, zt1 8 rfl rfl, zt5 144 rfl rfl⟩
theorem wm_RX7_183 : Cond.methodLink RX7 183 yX7_columnOf ∈ zWS := zt5 137 rfl rfl
theorem wc_X7_columnOf : Cond.instanceMethod yX7_columnOf ∈ zWS ∧ Cond.selects RX7 yX7_columnOf yX7_columnOf ∈ zWS ∧ Cond.initialized yX7_columnOf.cls ∈ zWS ∧ Cond.code yX7_columnOf iX7_columnOf.2.1 iX7_columnOf.2.2.1 iX7_columnOf.2.2.2.1 ∈ zWS := ⟨zt5 139 rfl rfl, zp3 15 rfl rfl, zt1 8 rfl rfl, zt5 140 rfl rfl⟩
theorem wm_RX7_180 : Cond.methodLink RX7 180 yX7_lost ∈ zWS := zt5 133 rfl rfl
theorem wc_X7_lost : Cond.instanceMethod yX7_lost ∈ zWS ∧ Cond.selects RX7 yX7_lost yX7_lost ∈ zWS ∧ Cond.initialized yX7_lost.cls ∈ zWS ∧ Cond.code yX7_lost iX7_lost.2.1 iX7_lost.2.2.1 iX7_lost.2.2.2.1 ∈ zWS := ⟨zt5 135 rfl rfl, zp3 14 rfl rfl, zt1 8 rfl rfl, zt5 136 rfl rfl⟩
theorem wm_RX7_186 : Cond.methodLink RX7 186 yX7_placeOf ∈ zWS := zt5 161 rfl rfl
theorem wc_X7_placeOf : Cond.instanceMethod yX7_placeOf ∈ zWS ∧ Cond.selects RX7 yX7_placeOf yX7_placeOf ∈ zWS ∧ Cond.initialized yX7_placeOf.cls ∈ zWS ∧ Cond.code yX7_placeOf iX7_placeOf.2.1 iX7_placeOf.2.2.1 iX7_placeOf.2.2.2.1 ∈ zWS := ⟨zt5 163 rfl rfl, zp4 2 rfl rfl, zt1 8 rfl rfl, zt5 164 rfl rfl⟩
theorem wm_RX7_189 : Cond.methodLink RX7 189 yX7_endOf ∈ zWS := zt5 157 rfl rfl
theorem wc_X7_endOf : Cond.instanceMethod yX7_endOf ∈ zWS ∧ Cond.selects RX7 yX7_endOf yX7_endOf ∈ zWS ∧ Cond.initialized yX7_endOf.cls ∈ zWS ∧ Cond.code yX7_endOf iX7_endOf.2.1 iX7_endOf.2.2.1 iX7_endOf.2.2.2.1 ∈ zWS := ⟨zt5 159 rfl rfl, zp4 1 rfl rfl, zt1 8 rfl rfl, zt5 160 rfl rfl⟩
theorem wm_RX7_192 : Cond.methodLink RX7 192 yX7_ender ∈ zWS := zt5 169 rfl rfl
theorem wc_X7_ender : Cond.instanceMethod yX7_ender ∈ zWS ∧ Cond.selects RX7 yX7_ender yX7_ender ∈ zWS ∧ Cond.initialized yX7_ender.cls ∈ zWS ∧ Cond.code yX7_ender iX7_ender.2.1 iX7_ender.2.2.1 iX7_ender.2.2.2.1 ∈ zWS := ⟨zt5 171 rfl rfl, zp4 3 rfl rfl, zt1 8 rfl rfl, zt5 172 rfl rfl⟩
theorem wm_RX7_196 : Cond.methodLink RX7 196 yX7_apartOf ∈ zWS := zt5 173 rfl rfl
theorem wc_X7_apartOf : Cond.instanceMethod yX7_apartOf ∈ zWS ∧ Cond.selects RX7 yX7_apartOf yX7_apartOf ∈ zWS ∧ Cond.initialized yX7_apartOf.cls ∈ zWS ∧ Cond.code yX7_apartOf iX7_apartOf.2.1 iX7_apartOf.2.2.1 iX7_apartOf.2.2.2.1 ∈ zWS := ⟨zt5 175 rfl rfl, zp4 4 rfl rfl, zt1 8 rfl rfl, zt5 176 rfl rfl⟩
theorem wm_RX7_199 : Cond.methodLink RX7 199 yX7_isAhead ∈ zWS := zt5 181 rfl rfl
theorem wc_X7_isAhead : Cond.instanceMethod yX7_isAhead ∈ zWS ∧ Cond.selects RX7 yX7_isAhead yX7_isAhead ∈ zWS ∧ Cond.initialized yX7_isAhead.cls ∈ zWS ∧ Cond.code yX7_isAhead iX7_isAhead.2.1 iX7_isAhead.2.2.1 iX7_isAhead.2.2.2.1 ∈ zWS := ⟨zt5 183 rfl rfl, zp4 5 rfl rfl, zt1 8 rfl rfl, zt5 184 rfl rfl⟩
theorem wm_RX7_202 : Cond.methodLink RX7 202 yX7_raggedAll ∈ zWS := zt5 185 rfl rfl
theorem wc_X7_raggedAll : Cond.instanceMethod yX7_raggedAll ∈ zWS ∧ Cond.selects RX7 yX7_raggedAll yX7_raggedAll ∈ zWS ∧ Cond.initialized yX7_raggedAll.cls ∈ zWS ∧ Cond.code yX7_raggedAll iX7_raggedAll.2.1 iX7_raggedAll.2.2.1 iX7_raggedAll.2.2.2.1 ∈ zWS := ⟨zt5 187 rfl rfl, zp4 6 rfl rfl, zt1 8 rfl rfl, zt5 188 rfl rfl⟩
theorem wm_RX7_205 : Cond.methodLink RX7 205 yX7_deepOf ∈ zWS := zt5 209 rfl rfl
theorem wc_X7_deepOf : Cond.instanceMethod yX7_deepOf ∈ zWS ∧ Cond.selects RX7 yX7_deepOf yX7_deepOf ∈ zWS ∧ Cond.initialized yX7_deepOf.cls ∈ zWS ∧ Cond.code yX7_deepOf iX7_deepOf.2.1 iX7_deepOf.2.2.1 iX7_deepOf.2.2.2.1 ∈ zWS := ⟨zt5 211 rfl rfl, zp4 11 rfl rfl, zt1 8 rfl rfl, zt5 212 rfl rfl⟩
theorem wm_RX7_208 : Cond.methodLink RX7 208 yX7_isBroken ∈ zWS := zt5 205 rfl rfl
theorem wc_X7_isBroken : Cond.instanceMethod yX7_isBroken ∈ zWS ∧ Cond.selects RX7 yX7_isBroken yX7_isBroken ∈ zWS ∧ Cond.initialized yX7_isBroken.cls ∈ zWS ∧ Cond.code yX7_isBroken iX7_isBroken.2.1 iX7_isBroken.2.2.1 iX7_isBroken.2.2.2.1 ∈ zWS := ⟨zt5 207 rfl rfl, zp4 10 rfl rfl, zt1 8 rfl rfl, zt5 208 rfl rfl⟩
theorem wm_RX7_211 : Cond.methodLink RX7 211 yX7_brokenMany ∈ zWS := zt5 201 rfl rfl
theorem wc_X7_brokenMany : Cond.instanceMethod yX7_brokenMany ∈ zWS ∧ Cond.selects RX7 yX7_brokenMany yX7_brokenMany ∈ zWS ∧ Cond.initialized yX7_brokenMany.cls ∈ zWS ∧ Cond.code yX7_brokenMany iX7_brokenMany.2.1 iX7_brokenMany.2.2.1 iX7_brokenMany.2.2.2.1 ∈ zWS := ⟨zt5 203 rfl rfl, zp4 9 rfl rfl, zt1 8 rfl rfl, zt5 204 rfl rfl⟩
theorem wm_RX7_214 : Cond.methodLink RX7 214 yX7_costOf ∈ zWS := zt5 197 rfl rfl
theorem wc_X7_costOf : Cond.instanceMethod yX7_costOf ∈ zWS ∧ Cond.selects RX7 yX7_costOf yX7_costOf ∈ zWS ∧ Cond.initialized yX7_costOf.cls ∈ zWS ∧ Cond.code yX7_costOf iX7_costOf.2.1 iX7_costOf.2.2.1 iX7_costOf.2.2.2.1 ∈ zWS := ⟨zt5 199 rfl rfl, zp4 8 rfl rfl, zt1 8 rfl rfl, zt5 200 rfl rfl⟩
theorem wm_RX7_217 : Cond.methodLink RX7 217 yX7_costNow ∈ zWS := zt5 193 rfl rfl
theorem wc_X7_costNow : Cond.instanceMethod yX7_costNow ∈ zWS ∧ Cond.selects RX7 yX7_costNow yX7_costNow ∈ zWS ∧ Cond.initialized yX7_costNow.cls ∈ zWS ∧ Cond.code yX7_costNow iX7_costNow.2.1 iX7_costNow.2.2.1 iX7_costNow.2.2.2.1 ∈ zWS := ⟨zt5 195 rfl rfl, zp4 7 rfl rfl, zt1 8 rfl rfl, zt5 196 rfl rfl⟩
theorem wm_RX7_220 : Cond.methodLink RX7 220 yX7_isLoose ∈ zWS := zt5 229 rfl rfl
theorem wc_X7_isLoose : Cond.instanceMethod yX7_isLoose ∈ zWS ∧ Cond.selects RX7 yX7_isLoose yX7_isLoose ∈ zWS ∧ Cond.initialized yX7_isLoose.cls ∈ zWS ∧ Cond.code yX7_isLoose iX7_isLoose.2.1 iX7_isLoose.2.2.1 iX7_isLoose.2.2.2.1 ∈ zWS := ⟨zt5 231 rfl rfl, zp4 12 rfl rfl, zt1 8 rfl rfl, zt5 232 rfl rfl⟩
theorem wm_RX7_223 : Cond.methodLink RX7 223 yX7_canPlan ∈ zWS := zt6 1 rfl rfl
theorem wc_X7_canPlan : Cond.static yX7_canPlan ∈ zWS ∧ Cond.initialized yX7_canPlan.cls ∈ zWS ∧ Cond.code yX7_canPlan iX7_canPlan.2.1 iX7_canPlan.2.2.1 iX7_canPlan.2.2.2.1 ∈ zWS := ⟨zt6 2 rfl rfl, zt1 8 rfl rfl, zt6 3 rfl rfl⟩
theorem wf_RX7_33 : Cond.fieldLink RX7 33 (TX7 15).1 (TX7 15).2.1 (TX7 15).2.2.1 ∈ zWS := zt4 156 rfl rfl
theorem wm_RX7_227 : Cond.methodLink RX7 227 yX7_canBe ∈ zWS := zt5 237 rfl rfl
theorem wc_X7_canBe : Cond.instanceMethod yX7_canBe ∈ zWS ∧ Cond.selects RX7 yX7_canBe yX7_canBe ∈ zWS ∧ Cond.initialized yX7_canBe.cls ∈ zWS ∧ Cond.code yX7_canBe iX7_canBe.2.1 iX7_canBe.2.2.1 iX7_canBe.2.2.2.1 ∈ zWS := ⟨zt5 239 rfl rfl, zp4 13 rfl rfl, zt1 8 rfl rfl, zt6 0 rfl rfl⟩
theorem wm_RX7_230 : Cond.methodLink RX7 230 yX7_layAside ∈ zWS := zt6 4 rfl rfl
theorem wc_X7_layAside : Cond.instanceMethod yX7_layAside ∈ zWS ∧ Cond.selects RX7 yX7_layAside yX7_layAside ∈ zWS ∧ Cond.initialized yX7_layAside.cls ∈ zWS ∧ Cond.code yX7_layAside iX7_layAside.2.1 iX7_layAside.2.2.1 iX7_layAside.2.2.2.1 ∈ zWS := ⟨zt6 6 rfl rfl, zp4 14 rfl rfl, zt1 8 rfl rfl, zt6 7 rfl rfl⟩
theorem wm_RX7_233 : Cond.methodLink RX7 233 yX7_putPlan ∈ zWS := zt6 8 rfl rfl
theorem wc_X7_putPlan : Cond.instanceMethod yX7_putPlan ∈ zWS ∧ Cond.selects RX7 yX7_putPlan yX7_putPlan ∈ zWS ∧ Cond.initialized yX7_putPlan.cls ∈ zWS ∧ Cond.code yX7_putPlan iX7_putPlan.2.1 iX7_putPlan.2.2.1 iX7_putPlan.2.2.2.1 ∈ zWS := ⟨zt6 10 rfl rfl, zp4 15 rfl rfl, zt1 8 rfl rfl, zt6 11 rfl rfl⟩
theorem wm_RX7_237 : Cond.methodLink RX7 237 yX7_comesBack ∈ zWS := zt6 12 rfl rfl
theorem wc_X7_comesBack : Cond.instanceMethod yX7_comesBack ∈ zWS ∧ Cond.selects RX7 yX7_comesBack yX7_comesBack ∈ zWS ∧ Cond.initialized yX7_comesBack.cls ∈ zWS ∧ Cond.code yX7_comesBack iX7_comesBack.2.1 iX7_comesBack.2.2.1 iX7_comesBack.2.2.2.1 ∈ zWS := ⟨zt6 14 rfl rfl, zp5 0 rfl rfl, zt1 8 rfl rfl, zt6 15 rfl rfl⟩
theorem wf_RX7_240 : Cond.fieldLink RX7 240 (TX7 19).1 (TX7 19).2.1 (TX7 19).2.2.1 ∈ zWS := zt4 160 rfl rfl
theorem wf_RX7_243 : Cond.fieldLink RX7 243 (TX7 18).1 (TX7 18).2.1 (TX7 18).2.2.1 ∈ zWS := zt4 159 rfl rfl
theorem wf_RX7_36 : Cond.fieldLink RX7 36 (TX7 16).1 (TX7 16).2.1 (TX7 16).2.2.1 ∈ zWS := zt4 157 rfl rfl
theorem wf_RX7_246 : Cond.fieldLink RX7 246 (TX7 20).1 (TX7 20).2.1 (TX7 20).2.2.1 ∈ zWS := zt4 161 rfl rfl
theorem wf_RX7_39 : Cond.fieldLink RX7 39 (TX7 17).1 (TX7 17).2.1 (TX7 17).2.2.1 ∈ zWS := zt4 158 rfl rfl
theorem wm_RX7_249 : Cond.methodLink RX7 249 yX7_tryPlan ∈ zWS := zt6 27 rfl rfl
theorem wc_X7_tryPlan : Cond.instanceMethod yX7_tryPlan ∈ zWS ∧ Cond.selects RX7 yX7_tryPlan yX7_tryPlan ∈ zWS ∧ Cond.initialized yX7_tryPlan.cls ∈ zWS ∧ Cond.code yX7_tryPlan iX7_tryPlan.2.1 iX7_tryPlan.2.2.1 iX7_tryPlan.2.2.2.1 ∈ zWS := ⟨zt6 29 rfl rfl, zp5 2 rfl rfl, zt1 8 rfl rfl, zt6 30 rfl rfl⟩
theorem wm_RX7_252 : Cond.methodLink RX7 252 yX7_isGrid ∈ zWS := zt6 20 rfl rfl
theorem wc_X7_isGrid : Cond.static yX7_isGrid ∈ zWS ∧ Cond.initialized yX7_isGrid.cls ∈ zWS ∧ Cond.code yX7_isGrid iX7_isGrid.2.1 iX7_isGrid.2.2.1 iX7_isGrid.2.2.2.1 ∈ zWS := ⟨zt6 21 rfl rfl, zt1 8 rfl rfl, zt6 22 rfl rfl⟩
theorem wm_RX7_255 : Cond.methodLink RX7 255 yX7_goGrid ∈ zWS := zt6 23 rfl rfl
theorem wc_X7_goGrid : Cond.instanceMethod yX7_goGrid ∈ zWS ∧ Cond.selects RX7 yX7_goGrid yX7_goGrid ∈ zWS ∧ Cond.initialized yX7_goGrid.cls ∈ zWS ∧ Cond.code yX7_goGrid iX7_goGrid.2.1 iX7_goGrid.2.2.1 iX7_goGrid.2.2.2.1 ∈ zWS := ⟨zt6 25 rfl rfl, zp5 1 rfl rfl, zt1 8 rfl rfl, zt6 26 rfl rfl⟩
theorem wf_RX7_42 : Cond.fieldLink RX7 42 (TX7 21).1 (TX7 21).2.1 (TX7 21).2.2.1 ∈ zWS := zt4 162 rfl rfl
theorem wm_RX7_258 : Cond.methodLink RX7 258 yX7_stepFrom ∈ zWS := zt6 39 rfl rfl
theorem wc_X7_stepFrom : Cond.instanceMethod yX7_stepFrom ∈ zWS ∧ Cond.selects RX7 yX7_stepFrom yX7_stepFrom ∈ zWS ∧ Cond.initialized yX7_stepFrom.cls ∈ zWS ∧ Cond.code yX7_stepFrom iX7_stepFrom.2.1 iX7_stepFrom.2.2.1 iX7_stepFrom.2.2.2.1 ∈ zWS := ⟨zt6 41 rfl rfl, zp5 3 rfl rfl, zt1 8 rfl rfl, zt6 42 rfl rfl⟩
theorem wm_RX7_261 : Cond.methodLink RX7 261 yX7_leastBy ∈ zWS := zt6 47 rfl rfl
theorem wc_X7_leastBy : Cond.instanceMethod yX7_leastBy ∈ zWS ∧ Cond.selects RX7 yX7_leastBy yX7_leastBy ∈ zWS ∧ Cond.initialized yX7_leastBy.cls ∈ zWS ∧ Cond.code yX7_leastBy iX7_leastBy.2.1 iX7_leastBy.2.2.1 iX7_leastBy.2.2.2.1 ∈ zWS := ⟨zt6 49 rfl rfl, zp5 4 rfl rfl, zt1 8 rfl rfl, zt6 50 rfl rfl⟩
theorem wm_RX7_264 : Cond.methodLink RX7 264 yX7_shiftTies ∈ zWS := zt6 67 rfl rfl
theorem wc_X7_shiftTies : Cond.instanceMethod yX7_shiftTies ∈ zWS ∧ Cond.selects RX7 yX7_shiftTies yX7_shiftTies ∈ zWS ∧ Cond.initialized yX7_shiftTies.cls ∈ zWS ∧ Cond.code yX7_shiftTies iX7_shiftTies.2.1 iX7_shiftTies.2.2.1 iX7_shiftTies.2.2.2.1 ∈ zWS := ⟨zt6 69 rfl rfl, zp5 7 rfl rfl, zt1 8 rfl rfl, zt6 70 rfl rfl⟩
theorem wm_RX7_267 : Cond.methodLink RX7 267 yX7_refusesWord ∈ zWS := zt6 59 rfl rfl
theorem wc_X7_refusesWord : Cond.instanceMethod yX7_refusesWord ∈ zWS ∧ Cond.selects RX7 yX7_refusesWord yX7_refusesWord ∈ zWS ∧ Cond.initialized yX7_refusesWord.cls ∈ zWS ∧ Cond.code yX7_refusesWord iX7_refusesWord.2.1 iX7_refusesWord.2.2.1 iX7_refusesWord.2.2.2.1 ∈ zWS := ⟨zt6 61 rfl rfl, zp5 5 rfl rfl, zt1 8 rfl rfl, zt6 62 rfl rfl⟩
theorem wm_RX7_270 : Cond.methodLink RX7 270 yX7_put ∈ zWS := zt6 63 rfl rfl
theorem wc_X7_put : Cond.instanceMethod yX7_put ∈ zWS ∧ Cond.selects RX7 yX7_put yX7_put ∈ zWS ∧ Cond.initialized yX7_put.cls ∈ zWS ∧ Cond.code yX7_put iX7_put.2.1 iX7_put.2.2.1 iX7_put.2.2.2.1 ∈ zWS := ⟨zt6 65 rfl rfl, zp5 6 rfl rfl, zt1 8 rfl rfl, zt6 66 rfl rfl⟩
theorem wm_RX7_273 : Cond.methodLink RX7 273 yX7_drop ∈ zWS := zt6 75 rfl rfl
theorem wc_X7_drop : Cond.instanceMethod yX7_drop ∈ zWS ∧ Cond.selects RX7 yX7_drop yX7_drop ∈ zWS ∧ Cond.initialized yX7_drop.cls ∈ zWS ∧ Cond.code yX7_drop iX7_drop.2.1 iX7_drop.2.2.1 iX7_drop.2.2.2.1 ∈ zWS := ⟨zt6 77 rfl rfl, zp5 8 rfl rfl, zt1 8 rfl rfl, zt6 78 rfl rfl⟩
theorem wm_RX7_285 : Cond.methodLink RX7 285 yX7_settingAt ∈ zWS := zt6 91 rfl rfl
theorem wc_X7_settingAt : Cond.static yX7_settingAt ∈ zWS ∧ Cond.initialized yX7_settingAt.cls ∈ zWS ∧ Cond.code yX7_settingAt iX7_settingAt.2.1 iX7_settingAt.2.2.1 iX7_settingAt.2.2.2.1 ∈ zWS := ⟨zt6 92 rfl rfl, zt1 8 rfl rfl, zt6 93 rfl rfl⟩
theorem wm_RX7_288 : Cond.methodLink RX7 288 yX7_refusesSet ∈ zWS := zt6 87 rfl rfl
theorem wc_X7_refusesSet : Cond.instanceMethod yX7_refusesSet ∈ zWS ∧ Cond.selects RX7 yX7_refusesSet yX7_refusesSet ∈ zWS ∧ Cond.initialized yX7_refusesSet.cls ∈ zWS ∧ Cond.code yX7_refusesSet iX7_refusesSet.2.1 iX7_refusesSet.2.2.1 iX7_refusesSet.2.2.2.1 ∈ zWS := ⟨zt6 89 rfl rfl, zp5 9 rfl rfl, zt1 8 rfl rfl, zt6 90 rfl rfl⟩
theorem wm_RX7_291 : Cond.methodLink RX7 291 yX7_refusesPlan ∈ zWS := zt6 98 rfl rfl
theorem wc_X7_refusesPlan : Cond.instanceMethod yX7_refusesPlan ∈ zWS ∧ Cond.selects RX7 yX7_refusesPlan yX7_refusesPlan ∈ zWS ∧ Cond.initialized yX7_refusesPlan.cls ∈ zWS ∧ Cond.code yX7_refusesPlan iX7_refusesPlan.2.1 iX7_refusesPlan.2.2.1 iX7_refusesPlan.2.2.2.1 ∈ zWS := ⟨zt6 100 rfl rfl, zp5 10 rfl rfl, zt1 8 rfl rfl, zt6 101 rfl rfl⟩
theorem wm_RX7_294 : Cond.methodLink RX7 294 yX7_refusesBest ∈ zWS := zt6 106 rfl rfl
theorem wc_X7_refusesBest : Cond.instanceMethod yX7_refusesBest ∈ zWS ∧ Cond.selects RX7 yX7_refusesBest yX7_refusesBest ∈ zWS ∧ Cond.initialized yX7_refusesBest.cls ∈ zWS ∧ Cond.code yX7_refusesBest iX7_refusesBest.2.1 iX7_refusesBest.2.2.1 iX7_refusesBest.2.2.2.1 ∈ zWS := ⟨zt6 108 rfl rfl, zp5 11 rfl rfl, zt1 8 rfl rfl, zt6 109 rfl rfl⟩
theorem wm_RX7_297 : Cond.methodLink RX7 297 yX7_goSwap ∈ zWS := zt6 118 rfl rfl
theorem wc_X7_goSwap : Cond.instanceMethod yX7_goSwap ∈ zWS ∧ Cond.selects RX7 yX7_goSwap yX7_goSwap ∈ zWS ∧ Cond.initialized yX7_goSwap.cls ∈ zWS ∧ Cond.code yX7_goSwap iX7_goSwap.2.1 iX7_goSwap.2.2.1 iX7_goSwap.2.2.2.1 ∈ zWS := ⟨zt6 120 rfl rfl, zp5 12 rfl rfl, zt1 8 rfl rfl, zt6 121 rfl rfl⟩
theorem wf_RJ0_38 : Cond.fieldLink RJ0 38 "java/lang/String" "COMPACT_STRINGS" "Z" ∈ zWS := zt6 151 rfl rfl
theorem wf_RJ0_15 : Cond.fieldLink RJ0 15 "java/lang/String" "coder" "B" ∈ zWS := zt7 26 rfl rfl
theorem wf_RJ0_9 : Cond.fieldLink RJ0 9 "java/lang/String" "value" "[B" ∈ zWS := zt7 27 rfl rfl
theorem wm_RJ0_335 : Cond.methodLink RJ0 335 yJ0_coder_7d493 ∈ zWS := zt6 157 rfl rfl
theorem wc_J0_coder_7d493 : Cond.instanceMethod yJ0_coder_7d493 ∈ zWS ∧ Cond.selects RJ0 yJ0_coder_7d493 yJ0_coder_7d493 ∈ zWS ∧ Cond.initialized yJ0_coder_7d493.cls ∈ zWS ∧ Cond.code yJ0_coder_7d493 iJ0_coder_7d493.2.1 iJ0_coder_7d493.2.2.1 iJ0_coder_7d493.2.2.2.1 ∈ zWS := ⟨zt6 158 rfl rfl, zt6 159 rfl rfl, zt1 15 rfl rfl, zt6 160 rfl rfl⟩
theorem wm_RJ1_88 : Cond.methodLink RJ1 88 yJ1_canEncode_9a6ad ∈ zWS := zt6 164 rfl rfl
theorem wc_J1_canEncode_9a6ad : Cond.static yJ1_canEncode_9a6ad ∈ zWS ∧ Cond.initialized yJ1_canEncode_9a6ad.cls ∈ zWS ∧ Cond.code yJ1_canEncode_9a6ad iJ1_canEncode_9a6ad.2.1 iJ1_canEncode_9a6ad.2.2.1 iJ1_canEncode_9a6ad.2.2.2.1 ∈ zWS := ⟨zt6 165 rfl rfl, zt1 16 rfl rfl, zt6 166 rfl rfl⟩
theorem wm_RJ1_92 : Cond.methodLink RJ1 92 Lib.Math.max.name ∈ zWS := zt6 167 rfl rfl
theorem wm_RJ1_38 : Cond.methodLink RJ1 38 Lib.Math.min.name ∈ zWS := zt6 168 rfl rfl
theorem wm_RJ1_95 : Cond.methodLink RJ1 95 yJ1_indexOfChar_4cfef ∈ zWS := zt6 169 rfl rfl
theorem wc_J1_indexOfChar_4cfef : Cond.static yJ1_indexOfChar_4cfef ∈ zWS ∧ Cond.initialized yJ1_indexOfChar_4cfef.cls ∈ zWS ∧ Cond.code yJ1_indexOfChar_4cfef iJ1_indexOfChar_4cfef.2.1 iJ1_indexOfChar_4cfef.2.2.1 iJ1_indexOfChar_4cfef.2.2.2.1 ∈ zWS := ⟨zt6 170 rfl rfl, zt1 16 rfl rfl, zt6 171 rfl rfl⟩
theorem wm_RJ0_492 : Cond.methodLink RJ0 492 yJ0_isLatin1_aae02 ∈ zWS := zt6 147 rfl rfl
theorem wc_J0_isLatin1_aae02 : Cond.instanceMethod yJ0_isLatin1_aae02 ∈ zWS ∧ Cond.selects RJ0 yJ0_isLatin1_aae02 yJ0_isLatin1_aae02 ∈ zWS ∧ Cond.initialized yJ0_isLatin1_aae02.cls ∈ zWS ∧ Cond.code yJ0_isLatin1_aae02 iJ0_isLatin1_aae02.2.1 iJ0_isLatin1_aae02.2.2.1 iJ0_isLatin1_aae02.2.2.2.1 ∈ zWS := ⟨zt6 148 rfl rfl, zt6 149 rfl rfl, zt1 15 rfl rfl, zt6 150 rfl rfl⟩
theorem wm_RJ0_505 : Cond.methodLink RJ0 505 yJ0_length_8abf5 ∈ zWS := zt6 153 rfl rfl
theorem wc_J0_length_8abf5 : Cond.instanceMethod yJ0_length_8abf5 ∈ zWS ∧ Cond.selects RJ0 yJ0_length_8abf5 yJ0_length_8abf5 ∈ zWS ∧ Cond.initialized yJ0_length_8abf5.cls ∈ zWS ∧ Cond.code yJ0_length_8abf5 iJ0_length_8abf5.2.1 iJ0_length_8abf5.2.2.1 iJ0_length_8abf5.2.2.2.1 ∈ zWS := ⟨zt6 154 rfl rfl, zt6 155 rfl rfl, zt1 15 rfl rfl, zt6 156 rfl rfl⟩
theorem wm_RJ0_637 : Cond.methodLink RJ0 637 yJ1_indexOf_4cfef ∈ zWS := zt6 161 rfl rfl
theorem wc_J1_indexOf_4cfef : Cond.static yJ1_indexOf_4cfef ∈ zWS ∧ Cond.initialized yJ1_indexOf_4cfef.cls ∈ zWS ∧ Cond.code yJ1_indexOf_4cfef iJ1_indexOf_4cfef.2.1 iJ1_indexOf_4cfef.2.2.1 iJ1_indexOf_4cfef.2.2.2.1 ∈ zWS := ⟨zt6 162 rfl rfl, zt1 16 rfl rfl, zt6 163 rfl rfl⟩
theorem wm_RJ0_633 : Cond.methodLink RJ0 633 yJ0_indexOf_7cf53 ∈ zWS := zt6 143 rfl rfl
theorem wc_J0_indexOf_7cf53 : Cond.instanceMethod yJ0_indexOf_7cf53 ∈ zWS ∧ Cond.selects RJ0 yJ0_indexOf_7cf53 yJ0_indexOf_7cf53 ∈ zWS ∧ Cond.initialized yJ0_indexOf_7cf53.cls ∈ zWS ∧ Cond.code yJ0_indexOf_7cf53 iJ0_indexOf_7cf53.2.1 iJ0_indexOf_7cf53.2.2.1 iJ0_indexOf_7cf53.2.2.2.1 ∈ zWS := ⟨zt6 144 rfl rfl, zt6 145 rfl rfl, zt1 15 rfl rfl, zt6 146 rfl rfl⟩
theorem wm_RX7_302 : Cond.methodLink RX7 302 yJ0_indexOf_0f7a4 ∈ zWS := zt6 139 rfl rfl
theorem wc_J0_indexOf_0f7a4 : Cond.instanceMethod yJ0_indexOf_0f7a4 ∈ zWS ∧ Cond.selects RJ0 yJ0_indexOf_0f7a4 yJ0_indexOf_0f7a4 ∈ zWS ∧ Cond.initialized yJ0_indexOf_0f7a4.cls ∈ zWS ∧ Cond.code yJ0_indexOf_0f7a4 iJ0_indexOf_0f7a4.2.1 iJ0_indexOf_0f7a4.2.2.1 iJ0_indexOf_0f7a4.2.2.2.1 ∈ zWS := ⟨zt6 140 rfl rfl, zt6 141 rfl rfl, zt1 15 rfl rfl, zt6 142 rfl rfl⟩
theorem wm_RX7_307 : Cond.methodLink RX7 307 yX7_readAct ∈ zWS := zt6 134 rfl rfl
theorem wc_X7_readAct : Cond.instanceMethod yX7_readAct ∈ zWS ∧ Cond.selects RX7 yX7_readAct yX7_readAct ∈ zWS ∧ Cond.initialized yX7_readAct.cls ∈ zWS ∧ Cond.code yX7_readAct iX7_readAct.2.1 iX7_readAct.2.2.1 iX7_readAct.2.2.2.1 ∈ zWS := ⟨zt6 136 rfl rfl, zp5 13 rfl rfl, zt1 8 rfl rfl, zt6 137 rfl rfl⟩
theorem wm_RX7_310 : Cond.methodLink RX7 310 yX7_act ∈ zWS := zt6 221 rfl rfl
theorem wc_X7_act : Cond.instanceMethod yX7_act ∈ zWS ∧ Cond.selects RX7 yX7_act yX7_act ∈ zWS ∧ Cond.initialized yX7_act.cls ∈ zWS ∧ Cond.code yX7_act iX7_act.2.1 iX7_act.2.2.1 iX7_act.2.2.2.1 ∈ zWS := ⟨zt6 223 rfl rfl, zp5 14 rfl rfl, zt1 8 rfl rfl, zt6 224 rfl rfl⟩
theorem wf_RX7_313 : Cond.fieldLink RX7 313 (TX7 25).1 (TX7 25).2.1 (TX7 25).2.2.1 ∈ zWS := zt4 166 rfl rfl
theorem wk_RX7_316 : Cond.constant RX7 316 (1103515245) ∈ zWS := zt6 237 rfl rfl
theorem wm_RX7_317 : Cond.methodLink RX7 317 yX7_draw ∈ zWS := zt6 233 rfl rfl
theorem wc_X7_draw : Cond.instanceMethod yX7_draw ∈ zWS ∧ Cond.selects RX7 yX7_draw yX7_draw ∈ zWS ∧ Cond.initialized yX7_draw.cls ∈ zWS ∧ Cond.code yX7_draw iX7_draw.2.1 iX7_draw.2.2.1 iX7_draw.2.2.2.1 ∈ zWS := ⟨zt6 235 rfl rfl, zp5 15 rfl rfl, zt1 8 rfl rfl, zt6 236 rfl rfl⟩
theorem wf_RX7_54 : Cond.fieldLink RX7 54 (TX7 27).1 (TX7 27).2.1 (TX7 27).2.2.1 ∈ zWS := zt4 168 rfl rfl
theorem wf_RX7_51 : Cond.fieldLink RX7 51 (TX7 26).1 (TX7 26).2.1 (TX7 26).2.2.1 ∈ zWS := zt4 167 rfl rfl
