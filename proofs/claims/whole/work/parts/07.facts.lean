theorem bi_m9 : (Int8.ofInt (-9)).toInt32 = (-9) := by decide +kernel
theorem bi_m4 : (Int8.ofInt (-4)).toInt32 = (-4) := by decide +kernel
theorem bi_m3 : (Int8.ofInt (-3)).toInt32 = (-3) := by decide +kernel
theorem bi_m2 : (Int8.ofInt (-2)).toInt32 = (-2) := by decide +kernel
theorem bi_6 : (Int8.ofInt 6).toInt32 = 6 := by decide +kernel
theorem bi_7 : (Int8.ofInt 7).toInt32 = 7 := by decide +kernel
theorem bi_8 : (Int8.ofInt 8).toInt32 = 8 := by decide +kernel
theorem bi_9 : (Int8.ofInt 9).toInt32 = 9 := by decide +kernel
theorem bi_10 : (Int8.ofInt 10).toInt32 = 10 := by decide +kernel
theorem bi_11 : (Int8.ofInt 11).toInt32 = 11 := by decide +kernel
theorem bi_13 : (Int8.ofInt 13).toInt32 = 13 := by decide +kernel
theorem bi_14 : (Int8.ofInt 14).toInt32 = 14 := by decide +kernel
theorem bi_15 : (Int8.ofInt 15).toInt32 = 15 := by decide +kernel
theorem bi_16 : (Int8.ofInt 16).toInt32 = 16 := by decide +kernel
theorem bi_18 : (Int8.ofInt 18).toInt32 = 18 := by decide +kernel
theorem bi_22 : (Int8.ofInt 22).toInt32 = 22 := by decide +kernel
theorem bi_25 : (Int8.ofInt 25).toInt32 = 25 := by decide +kernel
theorem bi_30 : (Int8.ofInt 30).toInt32 = 30 := by decide +kernel
theorem bi_33 : (Int8.ofInt 33).toInt32 = 33 := by decide +kernel
theorem bi_40 : (Int8.ofInt 40).toInt32 = 40 := by decide +kernel
theorem bi_48 : (Int8.ofInt 48).toInt32 = 48 := by decide +kernel
theorem bi_63 : (Int8.ofInt 63).toInt32 = 63 := by decide +kernel
theorem bi_64 : (Int8.ofInt 64).toInt32 = 64 := by decide +kernel
theorem bi_82 : (Int8.ofInt 82).toInt32 = 82 := by decide +kernel
theorem bi_83 : (Int8.ofInt 83).toInt32 = 83 := by decide +kernel
theorem bi_100 : (Int8.ofInt 100).toInt32 = 100 := by decide +kernel
theorem bi_104 : (Int8.ofInt 104).toInt32 = 104 := by decide +kernel
theorem bi_121 : (Int8.ofInt 121).toInt32 = 121 := by decide +kernel
theorem ic_m1 : Int32.ofInt (-1) = (-1) := by decide +kernel
theorem ic_0 : Int32.ofInt 0 = 0 := by decide +kernel
theorem ic_1 : Int32.ofInt 1 = 1 := by decide +kernel
theorem ic_2 : Int32.ofInt 2 = 2 := by decide +kernel
theorem ic_3 : Int32.ofInt 3 = 3 := by decide +kernel
theorem ic_4 : Int32.ofInt 4 = 4 := by decide +kernel
theorem ic_5 : Int32.ofInt 5 = 5 := by decide +kernel
theorem si_128 : (Int16.ofInt 128).toInt32 = 128 := by decide +kernel
theorem si_192 : (Int16.ofInt 192).toInt32 = 192 := by decide +kernel
theorem si_200 : (Int16.ofInt 200).toInt32 = 200 := by decide +kernel
theorem si_255 : (Int16.ofInt 255).toInt32 = 255 := by decide +kernel
theorem si_1023 : (Int16.ofInt 1023).toInt32 = 1023 := by decide +kernel
theorem si_9999 : (Int16.ofInt 9999).toInt32 = 9999 := by decide +kernel
abbrev rmX0_begin : Room := { frames := 0, cells := 0, slots := 0, locals := 0 }
theorem hyX0_begin : yX0_begin.cls = RX0 ∧ yX0_begin.cls ≠ "java/lang/invoke/MethodHandle" ∧ yX0_begin.cls ≠ "java/lang/invoke/VarHandle" ∧ (parseMethodDescriptor yX0_begin.desc).map (fun d => d.parameters.length) = some 3 := by decide +kernel
abbrev rmX0_hammerCount : Room := { frames := 0, cells := 0, slots := 0, locals := 0 }
theorem hyX0_hammerCount : yX0_hammerCount.cls = RX0 ∧ yX0_hammerCount.cls ≠ "java/lang/invoke/MethodHandle" ∧ yX0_hammerCount.cls ≠ "java/lang/invoke/VarHandle" ∧ (parseMethodDescriptor yX0_hammerCount.desc).map (fun d => d.parameters.length) = some 0 := by decide +kernel
abbrev rmX0_putHammer : Room := { frames := 0, cells := 0, slots := 0, locals := 0 }
theorem hyX0_putHammer : yX0_putHammer.cls = RX0 ∧ yX0_putHammer.cls ≠ "java/lang/invoke/MethodHandle" ∧ yX0_putHammer.cls ≠ "java/lang/invoke/VarHandle" ∧ (parseMethodDescriptor yX0_putHammer.desc).map (fun d => d.parameters.length) = some 1 := by decide +kernel
abbrev rmX0_takeHammer : Room := { frames := 0, cells := 0, slots := 0, locals := 0 }
theorem hyX0_takeHammer : yX0_takeHammer.cls = RX0 ∧ yX0_takeHammer.cls ≠ "java/lang/invoke/MethodHandle" ∧ yX0_takeHammer.cls ≠ "java/lang/invoke/VarHandle" ∧ (parseMethodDescriptor yX0_takeHammer.desc).map (fun d => d.parameters.length) = some 1 := by decide +kernel
abbrev rmX0_packed : Room := { frames := 0, cells := 0, slots := 0, locals := 0 }
theorem hyX0_packed : yX0_packed.cls = RX0 ∧ yX0_packed.cls ≠ "java/lang/invoke/MethodHandle" ∧ yX0_packed.cls ≠ "java/lang/invoke/VarHandle" ∧ (parseMethodDescriptor yX0_packed.desc).map (fun d => d.parameters.length) = some 0 := by decide +kernel
abbrev rmX0_unpack : Room := { frames := 0, cells := 0, slots := 0, locals := 0 }
theorem hyX0_unpack : yX0_unpack.cls = RX0 ∧ yX0_unpack.cls ≠ "java/lang/invoke/MethodHandle" ∧ yX0_unpack.cls ≠ "java/lang/invoke/VarHandle" ∧ (parseMethodDescriptor yX0_unpack.desc).map (fun d => d.parameters.length) = some 1 := by decide +kernel
abbrev rmX1_add : Room := { frames := 0, cells := 0, slots := 0, locals := 0 }
theorem hyX1_add : yX1_add.cls = RX1 ∧ yX1_add.cls ≠ "java/lang/invoke/MethodHandle" ∧ yX1_add.cls ≠ "java/lang/invoke/VarHandle" ∧ (parseMethodDescriptor yX1_add.desc).map (fun d => d.parameters.length) = some 4 := by decide +kernel
abbrev rmX2_has : Room := { frames := 0, cells := 0, slots := 0, locals := 0 }
theorem hyX2_has : yX2_has.cls = RX2 ∧ yX2_has.cls ≠ "java/lang/invoke/MethodHandle" ∧ yX2_has.cls ≠ "java/lang/invoke/VarHandle" ∧ (parseMethodDescriptor yX2_has.desc).map (fun d => d.parameters.length) = some 1 := by decide +kernel
abbrev rmX3_digit : Room := { frames := 0, cells := 0, slots := 0, locals := 0 }
theorem hyX3_digit : yX3_digit.cls = RX3 ∧ yX3_digit.cls ≠ "java/lang/invoke/MethodHandle" ∧ yX3_digit.cls ≠ "java/lang/invoke/VarHandle" ∧ (parseMethodDescriptor yX3_digit.desc).map (fun d => d.parameters.length) = some 1 := by decide +kernel
abbrev rmX2_take : Room := { frames := 1, cells := 0, slots := 0, locals := 21 }
theorem hyX2_take : yX2_take.cls = RX2 ∧ yX2_take.cls ≠ "java/lang/invoke/MethodHandle" ∧ yX2_take.cls ≠ "java/lang/invoke/VarHandle" ∧ (parseMethodDescriptor yX2_take.desc).map (fun d => d.parameters.length) = some 1 := by decide +kernel
abbrev rmX4_reaches : Room := { frames := 1, cells := 0, slots := 0, locals := 21 }
theorem hyX4_reaches : yX4_reaches.cls = RX4 ∧ yX4_reaches.cls ≠ "java/lang/invoke/MethodHandle" ∧ yX4_reaches.cls ≠ "java/lang/invoke/VarHandle" ∧ (parseMethodDescriptor yX4_reaches.desc).map (fun d => d.parameters.length) = some 6 := by decide +kernel
abbrev rmX2_carries : Room := { frames := 2, cells := 0, slots := 0, locals := 48 }
theorem hyX2_carries : yX2_carries.cls = RX2 ∧ yX2_carries.cls ≠ "java/lang/invoke/MethodHandle" ∧ yX2_carries.cls ≠ "java/lang/invoke/VarHandle" ∧ (parseMethodDescriptor yX2_carries.desc).map (fun d => d.parameters.length) = some 5 := by decide +kernel
abbrev rmX3_add : Room := { frames := 0, cells := 0, slots := 0, locals := 0 }
theorem hyX3_add : yX3_add.cls = RX3 ∧ yX3_add.cls ≠ "java/lang/invoke/MethodHandle" ∧ yX3_add.cls ≠ "java/lang/invoke/VarHandle" ∧ (parseMethodDescriptor yX3_add.desc).map (fun d => d.parameters.length) = some 1 := by decide +kernel
abbrev rmX3_isDigit : Room := { frames := 1, cells := 0, slots := 0, locals := 21 }
theorem hyX3_isDigit : yX3_isDigit.cls = RX3 ∧ yX3_isDigit.cls ≠ "java/lang/invoke/MethodHandle" ∧ yX3_isDigit.cls ≠ "java/lang/invoke/VarHandle" ∧ (parseMethodDescriptor yX3_isDigit.desc).map (fun d => d.parameters.length) = some 3 := by decide +kernel
abbrev rmX3_fitsHead : Room := { frames := 2, cells := 0, slots := 0, locals := 45 }
theorem hyX3_fitsHead : yX3_fitsHead.cls = RX3 ∧ yX3_fitsHead.cls ≠ "java/lang/invoke/MethodHandle" ∧ yX3_fitsHead.cls ≠ "java/lang/invoke/VarHandle" ∧ (parseMethodDescriptor yX3_fitsHead.desc).map (fun d => d.parameters.length) = some 1 := by decide +kernel
abbrev rmX3_fitsPart : Room := { frames := 2, cells := 0, slots := 0, locals := 45 }
theorem hyX3_fitsPart : yX3_fitsPart.cls = RX3 ∧ yX3_fitsPart.cls ≠ "java/lang/invoke/MethodHandle" ∧ yX3_fitsPart.cls ≠ "java/lang/invoke/VarHandle" ∧ (parseMethodDescriptor yX3_fitsPart.desc).map (fun d => d.parameters.length) = some 1 := by decide +kernel
abbrev rmX3_fits : Room := { frames := 3, cells := 0, slots := 0, locals := 66 }
theorem hyX3_fits : yX3_fits.cls = RX3 ∧ yX3_fits.cls ≠ "java/lang/invoke/MethodHandle" ∧ yX3_fits.cls ≠ "java/lang/invoke/VarHandle" ∧ (parseMethodDescriptor yX3_fits.desc).map (fun d => d.parameters.length) = some 1 := by decide +kernel
abbrev rmX3_firstFault : Room := { frames := 4, cells := 0, slots := 0, locals := 87 }
theorem hyX3_firstFault : yX3_firstFault.cls = RX3 ∧ yX3_firstFault.cls ≠ "java/lang/invoke/MethodHandle" ∧ yX3_firstFault.cls ≠ "java/lang/invoke/VarHandle" ∧ (parseMethodDescriptor yX3_firstFault.desc).map (fun d => d.parameters.length) = some 0 := by decide +kernel
abbrev rmX4_write : Room := { frames := 1, cells := 0, slots := 0, locals := 21 }
theorem hyX4_write : yX4_write.cls = RX4 ∧ yX4_write.cls ≠ "java/lang/invoke/MethodHandle" ∧ yX4_write.cls ≠ "java/lang/invoke/VarHandle" ∧ (parseMethodDescriptor yX4_write.desc).map (fun d => d.parameters.length) = some 1 := by decide +kernel
abbrev rmX4_wipe : Room := { frames := 0, cells := 0, slots := 0, locals := 0 }
theorem hyX4_wipe : yX4_wipe.cls = RX4 ∧ yX4_wipe.cls ≠ "java/lang/invoke/MethodHandle" ∧ yX4_wipe.cls ≠ "java/lang/invoke/VarHandle" ∧ (parseMethodDescriptor yX4_wipe.desc).map (fun d => d.parameters.length) = some 0 := by decide +kernel
abbrev rmX4_fault : Room := { frames := 5, cells := 0, slots := 0, locals := 108 }
theorem hyX4_fault : yX4_fault.cls = RX4 ∧ yX4_fault.cls ≠ "java/lang/invoke/MethodHandle" ∧ yX4_fault.cls ≠ "java/lang/invoke/VarHandle" ∧ (parseMethodDescriptor yX4_fault.desc).map (fun d => d.parameters.length) = some 0 := by decide +kernel
abbrev rmX4_river : Room := { frames := 5, cells := 0, slots := 0, locals := 108 }
theorem hyX4_river : yX4_river.cls = RX4 ∧ yX4_river.cls ≠ "java/lang/invoke/MethodHandle" ∧ yX4_river.cls ≠ "java/lang/invoke/VarHandle" ∧ (parseMethodDescriptor yX4_river.desc).map (fun d => d.parameters.length) = some 0 := by decide +kernel
abbrev rmX4_toldCell : Room := { frames := 0, cells := 0, slots := 0, locals := 0 }
theorem hyX4_toldCell : yX4_toldCell.cls = RX4 ∧ yX4_toldCell.cls ≠ "java/lang/invoke/MethodHandle" ∧ yX4_toldCell.cls ≠ "java/lang/invoke/VarHandle" ∧ (parseMethodDescriptor yX4_toldCell.desc).map (fun d => d.parameters.length) = some 1 := by decide +kernel
abbrev rmX4_about : Room := { frames := 1, cells := 0, slots := 0, locals := 20 }
theorem hyX4_about : yX4_about.cls = RX4 ∧ yX4_about.cls ≠ "java/lang/invoke/MethodHandle" ∧ yX4_about.cls ≠ "java/lang/invoke/VarHandle" ∧ (parseMethodDescriptor yX4_about.desc).map (fun d => d.parameters.length) = some 1 := by decide +kernel
abbrev rmX4_isHeard : Room := { frames := 3, cells := 0, slots := 0, locals := 73 }
theorem hyX4_isHeard : yX4_isHeard.cls = RX4 ∧ yX4_isHeard.cls ≠ "java/lang/invoke/MethodHandle" ∧ yX4_isHeard.cls ≠ "java/lang/invoke/VarHandle" ∧ (parseMethodDescriptor yX4_isHeard.desc).map (fun d => d.parameters.length) = some 5 := by decide +kernel
abbrev rmX4_cellsThatHear : Room := { frames := 4, cells := 0, slots := 0, locals := 98 }
theorem hyX4_cellsThatHear : yX4_cellsThatHear.cls = RX4 ∧ yX4_cellsThatHear.cls ≠ "java/lang/invoke/MethodHandle" ∧ yX4_cellsThatHear.cls ≠ "java/lang/invoke/VarHandle" ∧ (parseMethodDescriptor yX4_cellsThatHear.desc).map (fun d => d.parameters.length) = some 1 := by decide +kernel
abbrev rmX4_sound : Room := { frames := 5, cells := 0, slots := 0, locals := 121 }
theorem hyX4_sound : yX4_sound.cls = RX4 ∧ yX4_sound.cls ≠ "java/lang/invoke/MethodHandle" ∧ yX4_sound.cls ≠ "java/lang/invoke/VarHandle" ∧ (parseMethodDescriptor yX4_sound.desc).map (fun d => d.parameters.length) = some 2 := by decide +kernel
abbrev rmX4_isCell : Room := { frames := 0, cells := 0, slots := 0, locals := 0 }
theorem hyX4_isCell : yX4_isCell.cls = RX4 ∧ yX4_isCell.cls ≠ "java/lang/invoke/MethodHandle" ∧ yX4_isCell.cls ≠ "java/lang/invoke/VarHandle" ∧ (parseMethodDescriptor yX4_isCell.desc).map (fun d => d.parameters.length) = some 1 := by decide +kernel
abbrev rmX4_rememberAct : Room := { frames := 1, cells := 0, slots := 0, locals := 20 }
theorem hyX4_rememberAct : yX4_rememberAct.cls = RX4 ∧ yX4_rememberAct.cls ≠ "java/lang/invoke/MethodHandle" ∧ yX4_rememberAct.cls ≠ "java/lang/invoke/VarHandle" ∧ (parseMethodDescriptor yX4_rememberAct.desc).map (fun d => d.parameters.length) = some 0 := by decide +kernel
abbrev rmX4_liveSounds : Room := { frames := 0, cells := 0, slots := 0, locals := 0 }
theorem hyX4_liveSounds : yX4_liveSounds.cls = RX4 ∧ yX4_liveSounds.cls ≠ "java/lang/invoke/MethodHandle" ∧ yX4_liveSounds.cls ≠ "java/lang/invoke/VarHandle" ∧ (parseMethodDescriptor yX4_liveSounds.desc).map (fun d => d.parameters.length) = some 0 := by decide +kernel
abbrev rmX4_soundSet : Room := { frames := 3, cells := 0, slots := 0, locals := 73 }
theorem hyX4_soundSet : yX4_soundSet.cls = RX4 ∧ yX4_soundSet.cls ≠ "java/lang/invoke/MethodHandle" ∧ yX4_soundSet.cls ≠ "java/lang/invoke/VarHandle" ∧ (parseMethodDescriptor yX4_soundSet.desc).map (fun d => d.parameters.length) = some 2 := by decide +kernel
abbrev rmX4_hammerSet : Room := { frames := 2, cells := 0, slots := 0, locals := 48 }
theorem hyX4_hammerSet : yX4_hammerSet.cls = RX4 ∧ yX4_hammerSet.cls ≠ "java/lang/invoke/MethodHandle" ∧ yX4_hammerSet.cls ≠ "java/lang/invoke/VarHandle" ∧ (parseMethodDescriptor yX4_hammerSet.desc).map (fun d => d.parameters.length) = some 3 := by decide +kernel
abbrev rmX4_setNow : Room := { frames := 4, cells := 0, slots := 0, locals := 99 }
theorem hyX4_setNow : yX4_setNow.cls = RX4 ∧ yX4_setNow.cls ≠ "java/lang/invoke/MethodHandle" ∧ yX4_setNow.cls ≠ "java/lang/invoke/VarHandle" ∧ (parseMethodDescriptor yX4_setNow.desc).map (fun d => d.parameters.length) = some 2 := by decide +kernel
abbrev rmX4_row : Room := { frames := 5, cells := 0, slots := 0, locals := 121 }
theorem hyX4_row : yX4_row.cls = RX4 ∧ yX4_row.cls ≠ "java/lang/invoke/MethodHandle" ∧ yX4_row.cls ≠ "java/lang/invoke/VarHandle" ∧ (parseMethodDescriptor yX4_row.desc).map (fun d => d.parameters.length) = some 1 := by decide +kernel
abbrev rmX4_hush : Room := { frames := 2, cells := 0, slots := 0, locals := 41 }
theorem hyX4_hush : yX4_hush.cls = RX4 ∧ yX4_hush.cls ≠ "java/lang/invoke/MethodHandle" ∧ yX4_hush.cls ≠ "java/lang/invoke/VarHandle" ∧ (parseMethodDescriptor yX4_hush.desc).map (fun d => d.parameters.length) = some 1 := by decide +kernel
abbrev rmX4_hammer : Room := { frames := 2, cells := 0, slots := 0, locals := 41 }
theorem hyX4_hammer : yX4_hammer.cls = RX4 ∧ yX4_hammer.cls ≠ "java/lang/invoke/MethodHandle" ∧ yX4_hammer.cls ≠ "java/lang/invoke/VarHandle" ∧ (parseMethodDescriptor yX4_hammer.desc).map (fun d => d.parameters.length) = some 1 := by decide +kernel
abbrev rmX4_change : Room := { frames := 2, cells := 0, slots := 0, locals := 41 }
theorem hyX4_change : yX4_change.cls = RX4 ∧ yX4_change.cls ≠ "java/lang/invoke/MethodHandle" ∧ yX4_change.cls ≠ "java/lang/invoke/VarHandle" ∧ (parseMethodDescriptor yX4_change.desc).map (fun d => d.parameters.length) = some 2 := by decide +kernel
abbrev rmX4_hourBehind : Room := { frames := 0, cells := 0, slots := 0, locals := 0 }
theorem hyX4_hourBehind : yX4_hourBehind.cls = RX4 ∧ yX4_hourBehind.cls ≠ "java/lang/invoke/MethodHandle" ∧ yX4_hourBehind.cls ≠ "java/lang/invoke/VarHandle" ∧ (parseMethodDescriptor yX4_hourBehind.desc).map (fun d => d.parameters.length) = some 1 := by decide +kernel
abbrev rmX4_hour : Room := { frames := 2, cells := 0, slots := 0, locals := 41 }
theorem hyX4_hour : yX4_hour.cls = RX4 ∧ yX4_hour.cls ≠ "java/lang/invoke/MethodHandle" ∧ yX4_hour.cls ≠ "java/lang/invoke/VarHandle" ∧ (parseMethodDescriptor yX4_hour.desc).map (fun d => d.parameters.length) = some 0 := by decide +kernel
abbrev rmX4_undo : Room := { frames := 1, cells := 0, slots := 0, locals := 21 }
theorem hyX4_undo : yX4_undo.cls = RX4 ∧ yX4_undo.cls ≠ "java/lang/invoke/MethodHandle" ∧ yX4_undo.cls ≠ "java/lang/invoke/VarHandle" ∧ (parseMethodDescriptor yX4_undo.desc).map (fun d => d.parameters.length) = some 0 := by decide +kernel
abbrev rmX4_isHour : Room := { frames := 0, cells := 0, slots := 0, locals := 0 }
theorem hyX4_isHour : yX4_isHour.cls = RX4 ∧ yX4_isHour.cls ≠ "java/lang/invoke/MethodHandle" ∧ yX4_isHour.cls ≠ "java/lang/invoke/VarHandle" ∧ (parseMethodDescriptor yX4_isHour.desc).map (fun d => d.parameters.length) = some 1 := by decide +kernel
abbrev rmX4_heard : Room := { frames := 5, cells := 0, slots := 0, locals := 121 }
theorem hyX4_heard : yX4_heard.cls = RX4 ∧ yX4_heard.cls ≠ "java/lang/invoke/MethodHandle" ∧ yX4_heard.cls ≠ "java/lang/invoke/VarHandle" ∧ (parseMethodDescriptor yX4_heard.desc).map (fun d => d.parameters.length) = some 2 := by decide +kernel
abbrev rmX4_fillSoundSets : Room := { frames := 4, cells := 0, slots := 0, locals := 99 }
theorem hyX4_fillSoundSets : yX4_fillSoundSets.cls = RX4 ∧ yX4_fillSoundSets.cls ≠ "java/lang/invoke/MethodHandle" ∧ yX4_fillSoundSets.cls ≠ "java/lang/invoke/VarHandle" ∧ (parseMethodDescriptor yX4_fillSoundSets.desc).map (fun d => d.parameters.length) = some 1 := by decide +kernel
abbrev rmX4_fillSets : Room := { frames := 3, cells := 0, slots := 0, locals := 72 }
theorem hyX4_fillSets : yX4_fillSets.cls = RX4 ∧ yX4_fillSets.cls ≠ "java/lang/invoke/MethodHandle" ∧ yX4_fillSets.cls ≠ "java/lang/invoke/VarHandle" ∧ (parseMethodDescriptor yX4_fillSets.desc).map (fun d => d.parameters.length) = some 2 := by decide +kernel
abbrev rmX4_fillSetsNow : Room := { frames := 5, cells := 0, slots := 0, locals := 121 }
theorem hyX4_fillSetsNow : yX4_fillSetsNow.cls = RX4 ∧ yX4_fillSetsNow.cls ≠ "java/lang/invoke/MethodHandle" ∧ yX4_fillSetsNow.cls ≠ "java/lang/invoke/VarHandle" ∧ (parseMethodDescriptor yX4_fillSetsNow.desc).map (fun d => d.parameters.length) = some 1 := by decide +kernel
abbrev rmX4_sureCells : Room := { frames := 0, cells := 0, slots := 0, locals := 0 }
theorem hyX4_sureCells : yX4_sureCells.cls = RX4 ∧ yX4_sureCells.cls ≠ "java/lang/invoke/MethodHandle" ∧ yX4_sureCells.cls ≠ "java/lang/invoke/VarHandle" ∧ (parseMethodDescriptor yX4_sureCells.desc).map (fun d => d.parameters.length) = some 1 := by decide +kernel
abbrev rmX4_sure : Room := { frames := 6, cells := 0, slots := 0, locals := 142 }
theorem hyX4_sure : yX4_sure.cls = RX4 ∧ yX4_sure.cls ≠ "java/lang/invoke/MethodHandle" ∧ yX4_sure.cls ≠ "java/lang/invoke/VarHandle" ∧ (parseMethodDescriptor yX4_sure.desc).map (fun d => d.parameters.length) = some 1 := by decide +kernel
abbrev rmX4_isSet : Room := { frames := 0, cells := 0, slots := 0, locals := 0 }
theorem hyX4_isSet : yX4_isSet.cls = RX4 ∧ yX4_isSet.cls ≠ "java/lang/invoke/MethodHandle" ∧ yX4_isSet.cls ≠ "java/lang/invoke/VarHandle" ∧ (parseMethodDescriptor yX4_isSet.desc).map (fun d => d.parameters.length) = some 1 := by decide +kernel
abbrev rmX4_where : Room := { frames := 5, cells := 0, slots := 0, locals := 121 }
theorem hyX4_where : yX4_where.cls = RX4 ∧ yX4_where.cls ≠ "java/lang/invoke/MethodHandle" ∧ yX4_where.cls ≠ "java/lang/invoke/VarHandle" ∧ (parseMethodDescriptor yX4_where.desc).map (fun d => d.parameters.length) = some 2 := by decide +kernel
abbrev rmX4_when : Room := { frames := 5, cells := 0, slots := 0, locals := 121 }
theorem hyX4_when : yX4_when.cls = RX4 ∧ yX4_when.cls ≠ "java/lang/invoke/MethodHandle" ∧ yX4_when.cls ≠ "java/lang/invoke/VarHandle" ∧ (parseMethodDescriptor yX4_when.desc).map (fun d => d.parameters.length) = some 2 := by decide +kernel
abbrev rmJ6_bitCount_0f7a4 : Room := { frames := 0, cells := 0, slots := 0, locals := 0 }
theorem hyJ6_bitCount_0f7a4 : yJ6_bitCount_0f7a4.cls = RJ6 ∧ yJ6_bitCount_0f7a4.cls ≠ "java/lang/invoke/MethodHandle" ∧ yJ6_bitCount_0f7a4.cls ≠ "java/lang/invoke/VarHandle" ∧ (parseMethodDescriptor yJ6_bitCount_0f7a4.desc).map (fun d => d.parameters.length) = some 1 := by decide +kernel
abbrev rmX4_sureCount : Room := { frames := 1, cells := 0, slots := 0, locals := 24 }
theorem hyX4_sureCount : yX4_sureCount.cls = RX4 ∧ yX4_sureCount.cls ≠ "java/lang/invoke/MethodHandle" ∧ yX4_sureCount.cls ≠ "java/lang/invoke/VarHandle" ∧ (parseMethodDescriptor yX4_sureCount.desc).map (fun d => d.parameters.length) = some 1 := by decide +kernel
abbrev rmX4_spared : Room := { frames := 6, cells := 0, slots := 0, locals := 142 }
theorem hyX4_spared : yX4_spared.cls = RX4 ∧ yX4_spared.cls ≠ "java/lang/invoke/MethodHandle" ∧ yX4_spared.cls ≠ "java/lang/invoke/VarHandle" ∧ (parseMethodDescriptor yX4_spared.desc).map (fun d => d.parameters.length) = some 1 := by decide +kernel
abbrev rmX4_greatestDivisor : Room := { frames := 0, cells := 0, slots := 0, locals := 0 }
theorem hyX4_greatestDivisor : yX4_greatestDivisor.cls = RX4 ∧ yX4_greatestDivisor.cls ≠ "java/lang/invoke/MethodHandle" ∧ yX4_greatestDivisor.cls ≠ "java/lang/invoke/VarHandle" ∧ (parseMethodDescriptor yX4_greatestDivisor.desc).map (fun d => d.parameters.length) = some 2 := by decide +kernel
abbrev rmX4_toldPart : Room := { frames := 1, cells := 0, slots := 0, locals := 25 }
theorem hyX4_toldPart : yX4_toldPart.cls = RX4 ∧ yX4_toldPart.cls ≠ "java/lang/invoke/MethodHandle" ∧ yX4_toldPart.cls ≠ "java/lang/invoke/VarHandle" ∧ (parseMethodDescriptor yX4_toldPart.desc).map (fun d => d.parameters.length) = some 3 := by decide +kernel
abbrev rmX4_factorial : Room := { frames := 0, cells := 0, slots := 0, locals := 0 }
theorem hyX4_factorial : yX4_factorial.cls = RX4 ∧ yX4_factorial.cls ≠ "java/lang/invoke/MethodHandle" ∧ yX4_factorial.cls ≠ "java/lang/invoke/VarHandle" ∧ (parseMethodDescriptor yX4_factorial.desc).map (fun d => d.parameters.length) = some 1 := by decide +kernel
abbrev rmX4_worth : Room := { frames := 6, cells := 0, slots := 0, locals := 142 }
theorem hyX4_worth : yX4_worth.cls = RX4 ∧ yX4_worth.cls ≠ "java/lang/invoke/MethodHandle" ∧ yX4_worth.cls ≠ "java/lang/invoke/VarHandle" ∧ (parseMethodDescriptor yX4_worth.desc).map (fun d => d.parameters.length) = some 3 := by decide +kernel
abbrev rmX4_isFirstOrSecond : Room := { frames := 0, cells := 0, slots := 0, locals := 0 }
theorem hyX4_isFirstOrSecond : yX4_isFirstOrSecond.cls = RX4 ∧ yX4_isFirstOrSecond.cls ≠ "java/lang/invoke/MethodHandle" ∧ yX4_isFirstOrSecond.cls ≠ "java/lang/invoke/VarHandle" ∧ (parseMethodDescriptor yX4_isFirstOrSecond.desc).map (fun d => d.parameters.length) = some 1 := by decide +kernel
abbrev rmX4_sureCountWith : Room := { frames := 4, cells := 0, slots := 0, locals := 95 }
theorem hyX4_sureCountWith : yX4_sureCountWith.cls = RX4 ∧ yX4_sureCountWith.cls ≠ "java/lang/invoke/MethodHandle" ∧ yX4_sureCountWith.cls ≠ "java/lang/invoke/VarHandle" ∧ (parseMethodDescriptor yX4_sureCountWith.desc).map (fun d => d.parameters.length) = some 2 := by decide +kernel
abbrev rmX4_fewestHammers : Room := { frames := 5, cells := 0, slots := 0, locals := 117 }
theorem hyX4_fewestHammers : yX4_fewestHammers.cls = RX4 ∧ yX4_fewestHammers.cls ≠ "java/lang/invoke/MethodHandle" ∧ yX4_fewestHammers.cls ≠ "java/lang/invoke/VarHandle" ∧ (parseMethodDescriptor yX4_fewestHammers.desc).map (fun d => d.parameters.length) = some 1 := by decide +kernel
abbrev rmX4_hammers : Room := { frames := 6, cells := 0, slots := 0, locals := 140 }
theorem hyX4_hammers : yX4_hammers.cls = RX4 ∧ yX4_hammers.cls ≠ "java/lang/invoke/MethodHandle" ∧ yX4_hammers.cls ≠ "java/lang/invoke/VarHandle" ∧ (parseMethodDescriptor yX4_hammers.desc).map (fun d => d.parameters.length) = some 3 := by decide +kernel
abbrev rmX4_bestHours : Room := { frames := 6, cells := 0, slots := 0, locals := 142 }
theorem hyX4_bestHours : yX4_bestHours.cls = RX4 ∧ yX4_bestHours.cls ≠ "java/lang/invoke/MethodHandle" ∧ yX4_bestHours.cls ≠ "java/lang/invoke/VarHandle" ∧ (parseMethodDescriptor yX4_bestHours.desc).map (fun d => d.parameters.length) = some 2 := by decide +kernel
abbrev rmX4_grounded : Room := { frames := 5, cells := 0, slots := 0, locals := 121 }
theorem hyX4_grounded : yX4_grounded.cls = RX4 ∧ yX4_grounded.cls ≠ "java/lang/invoke/MethodHandle" ∧ yX4_grounded.cls ≠ "java/lang/invoke/VarHandle" ∧ (parseMethodDescriptor yX4_grounded.desc).map (fun d => d.parameters.length) = some 5 := by decide +kernel
abbrev rmX4_see : Room := { frames := 1, cells := 0, slots := 0, locals := 24 }
theorem hyX4_see : yX4_see.cls = RX4 ∧ yX4_see.cls ≠ "java/lang/invoke/MethodHandle" ∧ yX4_see.cls ≠ "java/lang/invoke/VarHandle" ∧ (parseMethodDescriptor yX4_see.desc).map (fun d => d.parameters.length) = some 4 := by decide +kernel
abbrev rmX4_unsee : Room := { frames := 0, cells := 0, slots := 0, locals := 0 }
theorem hyX4_unsee : yX4_unsee.cls = RX4 ∧ yX4_unsee.cls ≠ "java/lang/invoke/MethodHandle" ∧ yX4_unsee.cls ≠ "java/lang/invoke/VarHandle" ∧ (parseMethodDescriptor yX4_unsee.desc).map (fun d => d.parameters.length) = some 0 := by decide +kernel
abbrev rmX4_agreesWithSeen : Room := { frames := 4, cells := 0, slots := 0, locals := 98 }
theorem hyX4_agreesWithSeen : yX4_agreesWithSeen.cls = RX4 ∧ yX4_agreesWithSeen.cls ≠ "java/lang/invoke/MethodHandle" ∧ yX4_agreesWithSeen.cls ≠ "java/lang/invoke/VarHandle" ∧ (parseMethodDescriptor yX4_agreesWithSeen.desc).map (fun d => d.parameters.length) = some 2 := by decide +kernel
abbrev rmX4_weather : Room := { frames := 5, cells := 0, slots := 0, locals := 121 }
theorem hyX4_weather : yX4_weather.cls = RX4 ∧ yX4_weather.cls ≠ "java/lang/invoke/MethodHandle" ∧ yX4_weather.cls ≠ "java/lang/invoke/VarHandle" ∧ (parseMethodDescriptor yX4_weather.desc).map (fun d => d.parameters.length) = some 1 := by decide +kernel
abbrev rmX4_canBoth : Room := { frames := 0, cells := 0, slots := 0, locals := 0 }
theorem hyX4_canBoth : yX4_canBoth.cls = RX4 ∧ yX4_canBoth.cls ≠ "java/lang/invoke/MethodHandle" ∧ yX4_canBoth.cls ≠ "java/lang/invoke/VarHandle" ∧ (parseMethodDescriptor yX4_canBoth.desc).map (fun d => d.parameters.length) = some 2 := by decide +kernel
abbrev rmX4_fillSureByChoice : Room := { frames := 5, cells := 0, slots := 0, locals := 117 }
theorem hyX4_fillSureByChoice : yX4_fillSureByChoice.cls = RX4 ∧ yX4_fillSureByChoice.cls ≠ "java/lang/invoke/MethodHandle" ∧ yX4_fillSureByChoice.cls ≠ "java/lang/invoke/VarHandle" ∧ (parseMethodDescriptor yX4_fillSureByChoice.desc).map (fun d => d.parameters.length) = some 0 := by decide +kernel
abbrev rmX4_isAtRest : Room := { frames := 1, cells := 0, slots := 0, locals := 21 }
theorem hyX4_isAtRest : yX4_isAtRest.cls = RX4 ∧ yX4_isAtRest.cls ≠ "java/lang/invoke/MethodHandle" ∧ yX4_isAtRest.cls ≠ "java/lang/invoke/VarHandle" ∧ (parseMethodDescriptor yX4_isAtRest.desc).map (fun d => d.parameters.length) = some 2 := by decide +kernel
abbrev rmX4_rivals : Room := { frames := 6, cells := 0, slots := 0, locals := 139 }
theorem hyX4_rivals : yX4_rivals.cls = RX4 ∧ yX4_rivals.cls ≠ "java/lang/invoke/MethodHandle" ∧ yX4_rivals.cls ≠ "java/lang/invoke/VarHandle" ∧ (parseMethodDescriptor yX4_rivals.desc).map (fun d => d.parameters.length) = some 2 := by decide +kernel
abbrev rmX4_isSure : Room := { frames := 1, cells := 0, slots := 0, locals := 24 }
theorem hyX4_isSure : yX4_isSure.cls = RX4 ∧ yX4_isSure.cls ≠ "java/lang/invoke/MethodHandle" ∧ yX4_isSure.cls ≠ "java/lang/invoke/VarHandle" ∧ (parseMethodDescriptor yX4_isSure.desc).map (fun d => d.parameters.length) = some 2 := by decide +kernel
abbrev rmX4_power : Room := { frames := 0, cells := 0, slots := 0, locals := 0 }
theorem hyX4_power : yX4_power.cls = RX4 ∧ yX4_power.cls ≠ "java/lang/invoke/MethodHandle" ∧ yX4_power.cls ≠ "java/lang/invoke/VarHandle" ∧ (parseMethodDescriptor yX4_power.desc).map (fun d => d.parameters.length) = some 2 := by decide +kernel
abbrev rmX4_chance : Room := { frames := 6, cells := 0, slots := 0, locals := 142 }
theorem hyX4_chance : yX4_chance.cls = RX4 ∧ yX4_chance.cls ≠ "java/lang/invoke/MethodHandle" ∧ yX4_chance.cls ≠ "java/lang/invoke/VarHandle" ∧ (parseMethodDescriptor yX4_chance.desc).map (fun d => d.parameters.length) = some 4 := by decide +kernel
abbrev rmX4_seed : Room := { frames := 0, cells := 0, slots := 0, locals := 0 }
theorem hyX4_seed : yX4_seed.cls = RX4 ∧ yX4_seed.cls ≠ "java/lang/invoke/MethodHandle" ∧ yX4_seed.cls ≠ "java/lang/invoke/VarHandle" ∧ (parseMethodDescriptor yX4_seed.desc).map (fun d => d.parameters.length) = some 1 := by decide +kernel
abbrev rmX4_days : Room := { frames := 6, cells := 0, slots := 0, locals := 142 }
theorem hyX4_days : yX4_days.cls = RX4 ∧ yX4_days.cls ≠ "java/lang/invoke/MethodHandle" ∧ yX4_days.cls ≠ "java/lang/invoke/VarHandle" ∧ (parseMethodDescriptor yX4_days.desc).map (fun d => d.parameters.length) = some 1 := by decide +kernel
abbrev rmX4_keep : Room := { frames := 1, cells := 0, slots := 0, locals := 20 }
theorem hyX4_keep : yX4_keep.cls = RX4 ∧ yX4_keep.cls ≠ "java/lang/invoke/MethodHandle" ∧ yX4_keep.cls ≠ "java/lang/invoke/VarHandle" ∧ (parseMethodDescriptor yX4_keep.desc).map (fun d => d.parameters.length) = some 1 := by decide +kernel
abbrev rmX4_again : Room := { frames := 1, cells := 0, slots := 0, locals := 21 }
theorem hyX4_again : yX4_again.cls = RX4 ∧ yX4_again.cls ≠ "java/lang/invoke/MethodHandle" ∧ yX4_again.cls ≠ "java/lang/invoke/VarHandle" ∧ (parseMethodDescriptor yX4_again.desc).map (fun d => d.parameters.length) = some 1 := by decide +kernel
abbrev rmX5_in : Room := { frames := 0, cells := 0, slots := 0, locals := 0 }
theorem hyX5_in : yX5_in.cls = RX5 ∧ yX5_in.cls ≠ "java/lang/invoke/MethodHandle" ∧ yX5_in.cls ≠ "java/lang/invoke/VarHandle" ∧ (parseMethodDescriptor yX5_in.desc).map (fun d => d.parameters.length) = some 3 := by decide +kernel
abbrev rmX5_has : Room := { frames := 0, cells := 0, slots := 0, locals := 0 }
theorem hyX5_has : yX5_has.cls = RX5 ∧ yX5_has.cls ≠ "java/lang/invoke/MethodHandle" ∧ yX5_has.cls ≠ "java/lang/invoke/VarHandle" ∧ (parseMethodDescriptor yX5_has.desc).map (fun d => d.parameters.length) = some 2 := by decide +kernel
abbrev rmX5_bits : Room := { frames := 0, cells := 0, slots := 0, locals := 0 }
theorem hyX5_bits : yX5_bits.cls = RX5 ∧ yX5_bits.cls ≠ "java/lang/invoke/MethodHandle" ∧ yX5_bits.cls ≠ "java/lang/invoke/VarHandle" ∧ (parseMethodDescriptor yX5_bits.desc).map (fun d => d.parameters.length) = some 1 := by decide +kernel
abbrev rmX5_far : Room := { frames := 0, cells := 0, slots := 0, locals := 0 }
theorem hyX5_far : yX5_far.cls = RX5 ∧ yX5_far.cls ≠ "java/lang/invoke/MethodHandle" ∧ yX5_far.cls ≠ "java/lang/invoke/VarHandle" ∧ (parseMethodDescriptor yX5_far.desc).map (fun d => d.parameters.length) = some 2 := by decide +kernel
abbrev rmX5_noSound : Room := { frames := 1, cells := 0, slots := 0, locals := 25 }
theorem hyX5_noSound : yX5_noSound.cls = RX5 ∧ yX5_noSound.cls ≠ "java/lang/invoke/MethodHandle" ∧ yX5_noSound.cls ≠ "java/lang/invoke/VarHandle" ∧ (parseMethodDescriptor yX5_noSound.desc).map (fun d => d.parameters.length) = some 1 := by decide +kernel
abbrev rmX5_noCell : Room := { frames := 1, cells := 0, slots := 0, locals := 25 }
theorem hyX5_noCell : yX5_noCell.cls = RX5 ∧ yX5_noCell.cls ≠ "java/lang/invoke/MethodHandle" ∧ yX5_noCell.cls ≠ "java/lang/invoke/VarHandle" ∧ (parseMethodDescriptor yX5_noCell.desc).map (fun d => d.parameters.length) = some 1 := by decide +kernel
abbrev rmX5_noHour : Room := { frames := 1, cells := 0, slots := 0, locals := 25 }
theorem hyX5_noHour : yX5_noHour.cls = RX5 ∧ yX5_noHour.cls ≠ "java/lang/invoke/MethodHandle" ∧ yX5_noHour.cls ≠ "java/lang/invoke/VarHandle" ∧ (parseMethodDescriptor yX5_noHour.desc).map (fun d => d.parameters.length) = some 1 := by decide +kernel
abbrev rmX5_write : Room := { frames := 1, cells := 0, slots := 0, locals := 25 }
theorem hyX5_write : yX5_write.cls = RX5 ∧ yX5_write.cls ≠ "java/lang/invoke/MethodHandle" ∧ yX5_write.cls ≠ "java/lang/invoke/VarHandle" ∧ (parseMethodDescriptor yX5_write.desc).map (fun d => d.parameters.length) = some 1 := by decide +kernel
abbrev rmX5_wipe : Room := { frames := 0, cells := 0, slots := 0, locals := 0 }
theorem hyX5_wipe : yX5_wipe.cls = RX5 ∧ yX5_wipe.cls ≠ "java/lang/invoke/MethodHandle" ∧ yX5_wipe.cls ≠ "java/lang/invoke/VarHandle" ∧ (parseMethodDescriptor yX5_wipe.desc).map (fun d => d.parameters.length) = some 0 := by decide +kernel
abbrev rmX5_figure : Room := { frames := 1, cells := 0, slots := 0, locals := 25 }
theorem hyX5_figure : yX5_figure.cls = RX5 ∧ yX5_figure.cls ≠ "java/lang/invoke/MethodHandle" ∧ yX5_figure.cls ≠ "java/lang/invoke/VarHandle" ∧ (parseMethodDescriptor yX5_figure.desc).map (fun d => d.parameters.length) = some 2 := by decide +kernel
abbrev rmX5_readHead : Room := { frames := 2, cells := 0, slots := 0, locals := 47 }
theorem hyX5_readHead : yX5_readHead.cls = RX5 ∧ yX5_readHead.cls ≠ "java/lang/invoke/MethodHandle" ∧ yX5_readHead.cls ≠ "java/lang/invoke/VarHandle" ∧ (parseMethodDescriptor yX5_readHead.desc).map (fun d => d.parameters.length) = some 0 := by decide +kernel
abbrev rmX5_readPart : Room := { frames := 2, cells := 0, slots := 0, locals := 47 }
theorem hyX5_readPart : yX5_readPart.cls = RX5 ∧ yX5_readPart.cls ≠ "java/lang/invoke/MethodHandle" ∧ yX5_readPart.cls ≠ "java/lang/invoke/VarHandle" ∧ (parseMethodDescriptor yX5_readPart.desc).map (fun d => d.parameters.length) = some 0 := by decide +kernel
abbrev rmX5_readRiver : Room := { frames := 3, cells := 0, slots := 0, locals := 71 }
theorem hyX5_readRiver : yX5_readRiver.cls = RX5 ∧ yX5_readRiver.cls ≠ "java/lang/invoke/MethodHandle" ∧ yX5_readRiver.cls ≠ "java/lang/invoke/VarHandle" ∧ (parseMethodDescriptor yX5_readRiver.desc).map (fun d => d.parameters.length) = some 0 := by decide +kernel
abbrev rmX5_fault : Room := { frames := 4, cells := 0, slots := 0, locals := 91 }
theorem hyX5_fault : yX5_fault.cls = RX5 ∧ yX5_fault.cls ≠ "java/lang/invoke/MethodHandle" ∧ yX5_fault.cls ≠ "java/lang/invoke/VarHandle" ∧ (parseMethodDescriptor yX5_fault.desc).map (fun d => d.parameters.length) = some 0 := by decide +kernel
abbrev rmX5_river : Room := { frames := 4, cells := 0, slots := 0, locals := 91 }
theorem hyX5_river : yX5_river.cls = RX5 ∧ yX5_river.cls ≠ "java/lang/invoke/MethodHandle" ∧ yX5_river.cls ≠ "java/lang/invoke/VarHandle" ∧ (parseMethodDescriptor yX5_river.desc).map (fun d => d.parameters.length) = some 0 := by decide +kernel
abbrev rmX5_carries : Room := { frames := 1, cells := 0, slots := 0, locals := 21 }
theorem hyX5_carries : yX5_carries.cls = RX5 ∧ yX5_carries.cls ≠ "java/lang/invoke/MethodHandle" ∧ yX5_carries.cls ≠ "java/lang/invoke/VarHandle" ∧ (parseMethodDescriptor yX5_carries.desc).map (fun d => d.parameters.length) = some 5 := by decide +kernel
abbrev rmX5_hears : Room := { frames := 2, cells := 0, slots := 0, locals := 47 }
theorem hyX5_hears : yX5_hears.cls = RX5 ∧ yX5_hears.cls ≠ "java/lang/invoke/MethodHandle" ∧ yX5_hears.cls ≠ "java/lang/invoke/VarHandle" ∧ (parseMethodDescriptor yX5_hears.desc).map (fun d => d.parameters.length) = some 4 := by decide +kernel
abbrev rmX5_heardAt : Room := { frames := 3, cells := 0, slots := 0, locals := 72 }
theorem hyX5_heardAt : yX5_heardAt.cls = RX5 ∧ yX5_heardAt.cls ≠ "java/lang/invoke/MethodHandle" ∧ yX5_heardAt.cls ≠ "java/lang/invoke/VarHandle" ∧ (parseMethodDescriptor yX5_heardAt.desc).map (fun d => d.parameters.length) = some 3 := by decide +kernel
abbrev rmX5_sureAt : Room := { frames := 4, cells := 0, slots := 0, locals := 97 }
theorem hyX5_sureAt : yX5_sureAt.cls = RX5 ∧ yX5_sureAt.cls ≠ "java/lang/invoke/MethodHandle" ∧ yX5_sureAt.cls ≠ "java/lang/invoke/VarHandle" ∧ (parseMethodDescriptor yX5_sureAt.desc).map (fun d => d.parameters.length) = some 2 := by decide +kernel
abbrev rmX5_begin : Room := { frames := 0, cells := 0, slots := 0, locals := 0 }
theorem hyX5_begin : yX5_begin.cls = RX5 ∧ yX5_begin.cls ≠ "java/lang/invoke/MethodHandle" ∧ yX5_begin.cls ≠ "java/lang/invoke/VarHandle" ∧ (parseMethodDescriptor yX5_begin.desc).map (fun d => d.parameters.length) = some 0 := by decide +kernel
abbrev rmX5_about : Room := { frames := 0, cells := 0, slots := 0, locals := 0 }
theorem hyX5_about : yX5_about.cls = RX5 ∧ yX5_about.cls ≠ "java/lang/invoke/MethodHandle" ∧ yX5_about.cls ≠ "java/lang/invoke/VarHandle" ∧ (parseMethodDescriptor yX5_about.desc).map (fun d => d.parameters.length) = some 1 := by decide +kernel
abbrev rmX5_sound : Room := { frames := 3, cells := 0, slots := 0, locals := 72 }
theorem hyX5_sound : yX5_sound.cls = RX5 ∧ yX5_sound.cls ≠ "java/lang/invoke/MethodHandle" ∧ yX5_sound.cls ≠ "java/lang/invoke/VarHandle" ∧ (parseMethodDescriptor yX5_sound.desc).map (fun d => d.parameters.length) = some 2 := by decide +kernel
abbrev rmX5_note : Room := { frames := 0, cells := 0, slots := 0, locals := 0 }
theorem hyX5_note : yX5_note.cls = RX5 ∧ yX5_note.cls ≠ "java/lang/invoke/MethodHandle" ∧ yX5_note.cls ≠ "java/lang/invoke/VarHandle" ∧ (parseMethodDescriptor yX5_note.desc).map (fun d => d.parameters.length) = some 0 := by decide +kernel
abbrev rmX5_row : Room := { frames := 4, cells := 0, slots := 0, locals := 97 }
theorem hyX5_row : yX5_row.cls = RX5 ∧ yX5_row.cls ≠ "java/lang/invoke/MethodHandle" ∧ yX5_row.cls ≠ "java/lang/invoke/VarHandle" ∧ (parseMethodDescriptor yX5_row.desc).map (fun d => d.parameters.length) = some 1 := by decide +kernel
abbrev rmX5_hush : Room := { frames := 2, cells := 0, slots := 0, locals := 46 }
theorem hyX5_hush : yX5_hush.cls = RX5 ∧ yX5_hush.cls ≠ "java/lang/invoke/MethodHandle" ∧ yX5_hush.cls ≠ "java/lang/invoke/VarHandle" ∧ (parseMethodDescriptor yX5_hush.desc).map (fun d => d.parameters.length) = some 1 := by decide +kernel
abbrev rmX5_hammer : Room := { frames := 2, cells := 0, slots := 0, locals := 45 }
theorem hyX5_hammer : yX5_hammer.cls = RX5 ∧ yX5_hammer.cls ≠ "java/lang/invoke/MethodHandle" ∧ yX5_hammer.cls ≠ "java/lang/invoke/VarHandle" ∧ (parseMethodDescriptor yX5_hammer.desc).map (fun d => d.parameters.length) = some 1 := by decide +kernel
abbrev rmX5_change : Room := { frames := 1, cells := 0, slots := 0, locals := 25 }
theorem hyX5_change : yX5_change.cls = RX5 ∧ yX5_change.cls ≠ "java/lang/invoke/MethodHandle" ∧ yX5_change.cls ≠ "java/lang/invoke/VarHandle" ∧ (parseMethodDescriptor yX5_change.desc).map (fun d => d.parameters.length) = some 2 := by decide +kernel
abbrev rmX5_hour : Room := { frames := 1, cells := 0, slots := 0, locals := 21 }
theorem hyX5_hour : yX5_hour.cls = RX5 ∧ yX5_hour.cls ≠ "java/lang/invoke/MethodHandle" ∧ yX5_hour.cls ≠ "java/lang/invoke/VarHandle" ∧ (parseMethodDescriptor yX5_hour.desc).map (fun d => d.parameters.length) = some 0 := by decide +kernel
abbrev rmX5_undo : Room := { frames := 0, cells := 0, slots := 0, locals := 0 }
theorem hyX5_undo : yX5_undo.cls = RX5 ∧ yX5_undo.cls ≠ "java/lang/invoke/MethodHandle" ∧ yX5_undo.cls ≠ "java/lang/invoke/VarHandle" ∧ (parseMethodDescriptor yX5_undo.desc).map (fun d => d.parameters.length) = some 0 := by decide +kernel
abbrev rmX5_heard : Room := { frames := 4, cells := 0, slots := 0, locals := 97 }
theorem hyX5_heard : yX5_heard.cls = RX5 ∧ yX5_heard.cls ≠ "java/lang/invoke/MethodHandle" ∧ yX5_heard.cls ≠ "java/lang/invoke/VarHandle" ∧ (parseMethodDescriptor yX5_heard.desc).map (fun d => d.parameters.length) = some 2 := by decide +kernel
abbrev rmX5_sure : Room := { frames := 5, cells := 0, slots := 0, locals := 123 }
theorem hyX5_sure : yX5_sure.cls = RX5 ∧ yX5_sure.cls ≠ "java/lang/invoke/MethodHandle" ∧ yX5_sure.cls ≠ "java/lang/invoke/VarHandle" ∧ (parseMethodDescriptor yX5_sure.desc).map (fun d => d.parameters.length) = some 1 := by decide +kernel
abbrev rmX5_where : Room := { frames := 4, cells := 0, slots := 0, locals := 97 }
theorem hyX5_where : yX5_where.cls = RX5 ∧ yX5_where.cls ≠ "java/lang/invoke/MethodHandle" ∧ yX5_where.cls ≠ "java/lang/invoke/VarHandle" ∧ (parseMethodDescriptor yX5_where.desc).map (fun d => d.parameters.length) = some 2 := by decide +kernel
abbrev rmX5_when : Room := { frames := 4, cells := 0, slots := 0, locals := 97 }
theorem hyX5_when : yX5_when.cls = RX5 ∧ yX5_when.cls ≠ "java/lang/invoke/MethodHandle" ∧ yX5_when.cls ≠ "java/lang/invoke/VarHandle" ∧ (parseMethodDescriptor yX5_when.desc).map (fun d => d.parameters.length) = some 2 := by decide +kernel
abbrev rmX5_spared : Room := { frames := 5, cells := 0, slots := 0, locals := 123 }
theorem hyX5_spared : yX5_spared.cls = RX5 ∧ yX5_spared.cls ≠ "java/lang/invoke/MethodHandle" ∧ yX5_spared.cls ≠ "java/lang/invoke/VarHandle" ∧ (parseMethodDescriptor yX5_spared.desc).map (fun d => d.parameters.length) = some 1 := by decide +kernel
abbrev rmX5_orders : Room := { frames := 0, cells := 0, slots := 0, locals := 0 }
theorem hyX5_orders : yX5_orders.cls = RX5 ∧ yX5_orders.cls ≠ "java/lang/invoke/MethodHandle" ∧ yX5_orders.cls ≠ "java/lang/invoke/VarHandle" ∧ (parseMethodDescriptor yX5_orders.desc).map (fun d => d.parameters.length) = some 1 := by decide +kernel
abbrev rmX5_divisor : Room := { frames := 0, cells := 0, slots := 0, locals := 0 }
theorem hyX5_divisor : yX5_divisor.cls = RX5 ∧ yX5_divisor.cls ≠ "java/lang/invoke/MethodHandle" ∧ yX5_divisor.cls ≠ "java/lang/invoke/VarHandle" ∧ (parseMethodDescriptor yX5_divisor.desc).map (fun d => d.parameters.length) = some 2 := by decide +kernel
abbrev rmX5_fraction : Room := { frames := 1, cells := 0, slots := 0, locals := 24 }
theorem hyX5_fraction : yX5_fraction.cls = RX5 ∧ yX5_fraction.cls ≠ "java/lang/invoke/MethodHandle" ∧ yX5_fraction.cls ≠ "java/lang/invoke/VarHandle" ∧ (parseMethodDescriptor yX5_fraction.desc).map (fun d => d.parameters.length) = some 3 := by decide +kernel
abbrev rmX5_worth : Room := { frames := 5, cells := 0, slots := 0, locals := 123 }
theorem hyX5_worth : yX5_worth.cls = RX5 ∧ yX5_worth.cls ≠ "java/lang/invoke/MethodHandle" ∧ yX5_worth.cls ≠ "java/lang/invoke/VarHandle" ∧ (parseMethodDescriptor yX5_worth.desc).map (fun d => d.parameters.length) = some 3 := by decide +kernel
abbrev rmX5_sureWith : Room := { frames := 5, cells := 0, slots := 0, locals := 123 }
theorem hyX5_sureWith : yX5_sureWith.cls = RX5 ∧ yX5_sureWith.cls ≠ "java/lang/invoke/MethodHandle" ∧ yX5_sureWith.cls ≠ "java/lang/invoke/VarHandle" ∧ (parseMethodDescriptor yX5_sureWith.desc).map (fun d => d.parameters.length) = some 3 := by decide +kernel
abbrev rmX5_findHammers : Room := { frames := 6, cells := 0, slots := 0, locals := 146 }
theorem hyX5_findHammers : yX5_findHammers.cls = RX5 ∧ yX5_findHammers.cls ≠ "java/lang/invoke/MethodHandle" ∧ yX5_findHammers.cls ≠ "java/lang/invoke/VarHandle" ∧ (parseMethodDescriptor yX5_findHammers.desc).map (fun d => d.parameters.length) = some 2 := by decide +kernel
abbrev rmX5_hammers : Room := { frames := 7, cells := 0, slots := 0, locals := 169 }
theorem hyX5_hammers : yX5_hammers.cls = RX5 ∧ yX5_hammers.cls ≠ "java/lang/invoke/MethodHandle" ∧ yX5_hammers.cls ≠ "java/lang/invoke/VarHandle" ∧ (parseMethodDescriptor yX5_hammers.desc).map (fun d => d.parameters.length) = some 3 := by decide +kernel
abbrev rmX5_bestHours : Room := { frames := 5, cells := 0, slots := 0, locals := 123 }
theorem hyX5_bestHours : yX5_bestHours.cls = RX5 ∧ yX5_bestHours.cls ≠ "java/lang/invoke/MethodHandle" ∧ yX5_bestHours.cls ≠ "java/lang/invoke/VarHandle" ∧ (parseMethodDescriptor yX5_bestHours.desc).map (fun d => d.parameters.length) = some 2 := by decide +kernel
abbrev rmX5_grounded : Room := { frames := 4, cells := 0, slots := 0, locals := 97 }
theorem hyX5_grounded : yX5_grounded.cls = RX5 ∧ yX5_grounded.cls ≠ "java/lang/invoke/MethodHandle" ∧ yX5_grounded.cls ≠ "java/lang/invoke/VarHandle" ∧ (parseMethodDescriptor yX5_grounded.desc).map (fun d => d.parameters.length) = some 5 := by decide +kernel
abbrev rmX5_see : Room := { frames := 2, cells := 0, slots := 0, locals := 46 }
theorem hyX5_see : yX5_see.cls = RX5 ∧ yX5_see.cls ≠ "java/lang/invoke/MethodHandle" ∧ yX5_see.cls ≠ "java/lang/invoke/VarHandle" ∧ (parseMethodDescriptor yX5_see.desc).map (fun d => d.parameters.length) = some 4 := by decide +kernel
abbrev rmX5_unsee : Room := { frames := 0, cells := 0, slots := 0, locals := 0 }
theorem hyX5_unsee : yX5_unsee.cls = RX5 ∧ yX5_unsee.cls ≠ "java/lang/invoke/MethodHandle" ∧ yX5_unsee.cls ≠ "java/lang/invoke/VarHandle" ∧ (parseMethodDescriptor yX5_unsee.desc).map (fun d => d.parameters.length) = some 0 := by decide +kernel
abbrev rmX5_weather : Room := { frames := 3, cells := 0, slots := 0, locals := 72 }
theorem hyX5_weather : yX5_weather.cls = RX5 ∧ yX5_weather.cls ≠ "java/lang/invoke/MethodHandle" ∧ yX5_weather.cls ≠ "java/lang/invoke/VarHandle" ∧ (parseMethodDescriptor yX5_weather.desc).map (fun d => d.parameters.length) = some 1 := by decide +kernel
abbrev rmX5_canBoth : Room := { frames := 0, cells := 0, slots := 0, locals := 0 }
theorem hyX5_canBoth : yX5_canBoth.cls = RX5 ∧ yX5_canBoth.cls ≠ "java/lang/invoke/MethodHandle" ∧ yX5_canBoth.cls ≠ "java/lang/invoke/VarHandle" ∧ (parseMethodDescriptor yX5_canBoth.desc).map (fun d => d.parameters.length) = some 2 := by decide +kernel
abbrev rmX5_doRest : Room := { frames := 1, cells := 0, slots := 0, locals := 21 }
theorem hyX5_doRest : yX5_doRest.cls = RX5 ∧ yX5_doRest.cls ≠ "java/lang/invoke/MethodHandle" ∧ yX5_doRest.cls ≠ "java/lang/invoke/VarHandle" ∧ (parseMethodDescriptor yX5_doRest.desc).map (fun d => d.parameters.length) = some 2 := by decide +kernel
abbrev rmX5_rivals : Room := { frames := 6, cells := 0, slots := 0, locals := 146 }
theorem hyX5_rivals : yX5_rivals.cls = RX5 ∧ yX5_rivals.cls ≠ "java/lang/invoke/MethodHandle" ∧ yX5_rivals.cls ≠ "java/lang/invoke/VarHandle" ∧ (parseMethodDescriptor yX5_rivals.desc).map (fun d => d.parameters.length) = some 2 := by decide +kernel
abbrev rmX5_chance : Room := { frames := 5, cells := 0, slots := 0, locals := 123 }
theorem hyX5_chance : yX5_chance.cls = RX5 ∧ yX5_chance.cls ≠ "java/lang/invoke/MethodHandle" ∧ yX5_chance.cls ≠ "java/lang/invoke/VarHandle" ∧ (parseMethodDescriptor yX5_chance.desc).map (fun d => d.parameters.length) = some 4 := by decide +kernel
abbrev rmX5_seed : Room := { frames := 0, cells := 0, slots := 0, locals := 0 }
theorem hyX5_seed : yX5_seed.cls = RX5 ∧ yX5_seed.cls ≠ "java/lang/invoke/MethodHandle" ∧ yX5_seed.cls ≠ "java/lang/invoke/VarHandle" ∧ (parseMethodDescriptor yX5_seed.desc).map (fun d => d.parameters.length) = some 1 := by decide +kernel
abbrev rmX5_days : Room := { frames := 5, cells := 0, slots := 0, locals := 123 }
theorem hyX5_days : yX5_days.cls = RX5 ∧ yX5_days.cls ≠ "java/lang/invoke/MethodHandle" ∧ yX5_days.cls ≠ "java/lang/invoke/VarHandle" ∧ (parseMethodDescriptor yX5_days.desc).map (fun d => d.parameters.length) = some 1 := by decide +kernel
abbrev rmX5_keep : Room := { frames := 1, cells := 0, slots := 0, locals := 25 }
theorem hyX5_keep : yX5_keep.cls = RX5 ∧ yX5_keep.cls ≠ "java/lang/invoke/MethodHandle" ∧ yX5_keep.cls ≠ "java/lang/invoke/VarHandle" ∧ (parseMethodDescriptor yX5_keep.desc).map (fun d => d.parameters.length) = some 1 := by decide +kernel
abbrev rmX5_again : Room := { frames := 1, cells := 0, slots := 0, locals := 25 }
theorem hyX5_again : yX5_again.cls = RX5 ∧ yX5_again.cls ≠ "java/lang/invoke/MethodHandle" ∧ yX5_again.cls ≠ "java/lang/invoke/VarHandle" ∧ (parseMethodDescriptor yX5_again.desc).map (fun d => d.parameters.length) = some 1 := by decide +kernel
