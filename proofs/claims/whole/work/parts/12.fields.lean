section ZS
theorem in_X2 : ∀ w ∈ u_ws RX2 TX2 1, w ∈ z_T := z_all (by decide +kernel)
theorem in_X3 : ∀ w ∈ u_ws RX3 TX3 12, w ∈ z_T := z_all (by decide +kernel)
theorem in_X4 : ∀ w ∈ u_ws RX4 TX4 5, w ∈ z_T := z_all (by decide +kernel)
theorem in_X5 : ∀ w ∈ u_ws RX5 TX5 3, w ∈ z_T := z_all (by decide +kernel)
theorem in_X6 : ∀ w ∈ u_ws RX6 TX6 10, w ∈ z_T := z_all (by decide +kernel)
theorem in_X7 : ∀ w ∈ u_ws RX7 TX7 2, w ∈ z_T := z_all (by decide +kernel)
theorem in_X8 : ∀ w ∈ u_ws RX8 TX8 6, w ∈ z_T := z_all (by decide +kernel)
theorem in_X9 : ∀ w ∈ u_ws RX9 TX9 4, w ∈ z_T := z_all (by decide +kernel)
theorem in_X10 : ∀ w ∈ u_ws RX10 TX10 12, w ∈ z_T := z_all (by decide +kernel)
theorem in_X11 : ∀ w ∈ u_ws RX11 TX11 70, w ∈ z_T := z_all (by decide +kernel)
theorem of_X10_9 : z_okF RX10 9 8 0 := ⟨_, rfl, by decide, in_X10, z_one (by decide +kernel)⟩
theorem op_X10_9 : z_okP RX10 9 8 0 (.array .byte) true := ⟨_, tyX10, rfl, by decide, in_X10, z_one (by decide +kernel), tyX10_ok, nmX10, rfl, by decide +kernel, fun _ => rfl⟩
theorem of_X10_16 : z_okF RX10 16 8 2 := ⟨_, rfl, by decide, in_X10, z_one (by decide +kernel)⟩
theorem op_X10_16 : z_okP RX10 16 8 2 (.object "TwinHalves$Reader") true := ⟨_, tyX10, rfl, by decide, in_X10, z_one (by decide +kernel), tyX10_ok, nmX10, rfl, by decide +kernel, fun _ => rfl⟩
theorem of_X10_23 : z_okF RX10 23 8 3 := ⟨_, rfl, by decide, in_X10, z_one (by decide +kernel)⟩
theorem op_X10_23 : z_okP RX10 23 8 3 (.object "TwinHalves$Program") false := ⟨_, tyX10, rfl, by decide, in_X10, z_one (by decide +kernel), tyX10_ok, nmX10, rfl, by decide +kernel, fun h => by cases h⟩
theorem of_X10_27 : z_okF RX10 27 8 4 := ⟨_, rfl, by decide, in_X10, z_one (by decide +kernel)⟩
theorem op_X10_27 : z_okP RX10 27 8 4 (.object "TwinHalves$Program") false := ⟨_, tyX10, rfl, by decide, in_X10, z_one (by decide +kernel), tyX10_ok, nmX10, rfl, by decide +kernel, fun h => by cases h⟩
theorem of_X10_39 : z_okF RX10 39 8 7 := ⟨_, rfl, by decide, in_X10, z_one (by decide +kernel)⟩
theorem op_X10_39 : z_okP RX10 39 8 7 (.object "TwinHalves$Memory") true := ⟨_, tyX10, rfl, by decide, in_X10, z_one (by decide +kernel), tyX10_ok, nmX10, rfl, by decide +kernel, fun _ => rfl⟩
theorem of_X10_48 : z_okF RX10 48 8 8 := ⟨_, rfl, by decide, in_X10, z_one (by decide +kernel)⟩
theorem op_X10_48 : z_okP RX10 48 8 8 (.object "TwinHalves$Doer") true := ⟨_, tyX10, rfl, by decide, in_X10, z_one (by decide +kernel), tyX10_ok, nmX10, rfl, by decide +kernel, fun _ => rfl⟩
theorem of_X10_57 : z_okF RX10 57 8 9 := ⟨_, rfl, by decide, in_X10, z_one (by decide +kernel)⟩
theorem op_X10_57 : z_okP RX10 57 8 9 (.object "TwinHalves$Runner") true := ⟨_, tyX10, rfl, by decide, in_X10, z_one (by decide +kernel), tyX10_ok, nmX10, rfl, by decide +kernel, fun _ => rfl⟩
theorem of_X10_64 : z_okF RX10 64 8 10 := ⟨_, rfl, by decide, in_X10, z_one (by decide +kernel)⟩
theorem op_X10_64 : z_okP RX10 64 8 10 (.object "TwinHalves$Walk") true := ⟨_, tyX10, rfl, by decide, in_X10, z_one (by decide +kernel), tyX10_ok, nmX10, rfl, by decide +kernel, fun _ => rfl⟩
theorem of_X10_71 : z_okF RX10 71 8 11 := ⟨_, rfl, by decide, in_X10, z_one (by decide +kernel)⟩
theorem op_X10_71 : z_okP RX10 71 8 11 (.object "TwinHalves$Text") true := ⟨_, tyX10, rfl, by decide, in_X10, z_one (by decide +kernel), tyX10_ok, nmX10, rfl, by decide +kernel, fun _ => rfl⟩
theorem of_X10_75 : z_okF RX10 75 8 1 := ⟨_, rfl, by decide, in_X10, z_one (by decide +kernel)⟩
theorem op_X10_75 : z_okP RX10 75 8 1 .int false := ⟨_, tyX10, rfl, by decide, in_X10, z_one (by decide +kernel), tyX10_ok, nmX10, rfl, by decide +kernel, fun h => by cases h⟩
theorem of_X10_87 : z_okF RX10 87 8 6 := ⟨_, rfl, by decide, in_X10, z_one (by decide +kernel)⟩
theorem op_X10_87 : z_okP RX10 87 8 6 .int false := ⟨_, tyX10, rfl, by decide, in_X10, z_one (by decide +kernel), tyX10_ok, nmX10, rfl, by decide +kernel, fun h => by cases h⟩
theorem of_X10_90 : z_okF RX10 90 3 2 := ⟨_, rfl, by decide, in_X5, z_one (by decide +kernel)⟩
theorem of_X10_93 : z_okF RX10 93 8 5 := ⟨_, rfl, by decide, in_X10, z_one (by decide +kernel)⟩
theorem op_X10_93 : z_okP RX10 93 8 5 .boolean false := ⟨_, tyX10, rfl, by decide, in_X10, z_one (by decide +kernel), tyX10_ok, nmX10, rfl, by decide +kernel, fun h => by cases h⟩
theorem of_X10_100 : z_okF RX10 100 2 4 := ⟨_, rfl, by decide, in_X4, z_one (by decide +kernel)⟩
theorem of_X10_119 : z_okF RX10 119 4 2 := ⟨_, rfl, by decide, in_X6, z_one (by decide +kernel)⟩
theorem of_X10_128 : z_okF RX10 128 4 3 := ⟨_, rfl, by decide, in_X6, z_one (by decide +kernel)⟩
theorem of_X10_138 : z_okF RX10 138 4 5 := ⟨_, rfl, by decide, in_X6, z_one (by decide +kernel)⟩
theorem of_X10_141 : z_okF RX10 141 4 7 := ⟨_, rfl, by decide, in_X6, z_one (by decide +kernel)⟩
theorem of_X10_144 : z_okF RX10 144 4 9 := ⟨_, rfl, by decide, in_X6, z_one (by decide +kernel)⟩
theorem of_X10_156 : z_okF RX10 156 4 8 := ⟨_, rfl, by decide, in_X6, z_one (by decide +kernel)⟩
theorem of_X10_176 : z_okF RX10 176 1 9 := ⟨_, rfl, by decide, in_X3, z_one (by decide +kernel)⟩
theorem of_X10_179 : z_okF RX10 179 1 8 := ⟨_, rfl, by decide, in_X3, z_one (by decide +kernel)⟩
theorem of_X10_185 : z_okF RX10 185 1 10 := ⟨_, rfl, by decide, in_X3, z_one (by decide +kernel)⟩
theorem of_X10_188 : z_okF RX10 188 1 7 := ⟨_, rfl, by decide, in_X3, z_one (by decide +kernel)⟩
theorem of_X10_191 : z_okF RX10 191 1 0 := ⟨_, rfl, by decide, in_X3, z_one (by decide +kernel)⟩
theorem of_X10_194 : z_okF RX10 194 1 1 := ⟨_, rfl, by decide, in_X3, z_one (by decide +kernel)⟩
theorem of_X10_206 : z_okF RX10 206 1 6 := ⟨_, rfl, by decide, in_X3, z_one (by decide +kernel)⟩
theorem of_X10_218 : z_okF RX10 218 7 3 := ⟨_, rfl, by decide, in_X9, z_one (by decide +kernel)⟩
theorem of_X10_222 : z_okF RX10 222 5 1 := ⟨_, rfl, by decide, in_X7, z_one (by decide +kernel)⟩
theorem op_X10_222 : z_okP RX10 222 5 1 .int false := ⟨_, tyX7, rfl, by decide, in_X7, z_one (by decide +kernel), tyX7_ok, nmX7, rfl, by decide +kernel, fun h => by cases h⟩
theorem of_X10_229 : z_okF RX10 229 5 0 := ⟨_, rfl, by decide, in_X7, z_one (by decide +kernel)⟩
theorem of_X11_9 : z_okF RX11 9 9 3 := ⟨_, rfl, by decide, in_X11, z_one (by decide +kernel)⟩
theorem op_X11_9 : z_okP RX11 9 9 3 (.array .boolean) true := ⟨_, tyX11, rfl, by decide, in_X11, z_one (by decide +kernel), tyX11_ok, nmX11, rfl, by decide +kernel, fun _ => rfl⟩
theorem of_X11_13 : z_okF RX11 13 9 4 := ⟨_, rfl, by decide, in_X11, z_one (by decide +kernel)⟩
theorem op_X11_13 : z_okP RX11 13 9 4 (.array .int) true := ⟨_, tyX11, rfl, by decide, in_X11, z_one (by decide +kernel), tyX11_ok, nmX11, rfl, by decide +kernel, fun _ => rfl⟩
theorem of_X11_17 : z_okF RX11 17 9 5 := ⟨_, rfl, by decide, in_X11, z_one (by decide +kernel)⟩
theorem op_X11_17 : z_okP RX11 17 9 5 (.array .int) true := ⟨_, tyX11, rfl, by decide, in_X11, z_one (by decide +kernel), tyX11_ok, nmX11, rfl, by decide +kernel, fun _ => rfl⟩
theorem of_X11_20 : z_okF RX11 20 9 6 := ⟨_, rfl, by decide, in_X11, z_one (by decide +kernel)⟩
theorem op_X11_20 : z_okP RX11 20 9 6 (.array .int) true := ⟨_, tyX11, rfl, by decide, in_X11, z_one (by decide +kernel), tyX11_ok, nmX11, rfl, by decide +kernel, fun _ => rfl⟩
theorem of_X11_24 : z_okF RX11 24 9 7 := ⟨_, rfl, by decide, in_X11, z_one (by decide +kernel)⟩
theorem op_X11_24 : z_okP RX11 24 9 7 (.array .int) true := ⟨_, tyX11, rfl, by decide, in_X11, z_one (by decide +kernel), tyX11_ok, nmX11, rfl, by decide +kernel, fun _ => rfl⟩
theorem of_X11_27 : z_okF RX11 27 9 8 := ⟨_, rfl, by decide, in_X11, z_one (by decide +kernel)⟩
theorem op_X11_27 : z_okP RX11 27 9 8 (.array .int) true := ⟨_, tyX11, rfl, by decide, in_X11, z_one (by decide +kernel), tyX11_ok, nmX11, rfl, by decide +kernel, fun _ => rfl⟩
theorem of_X11_30 : z_okF RX11 30 9 9 := ⟨_, rfl, by decide, in_X11, z_one (by decide +kernel)⟩
theorem op_X11_30 : z_okP RX11 30 9 9 (.array .int) true := ⟨_, tyX11, rfl, by decide, in_X11, z_one (by decide +kernel), tyX11_ok, nmX11, rfl, by decide +kernel, fun _ => rfl⟩
theorem of_X11_33 : z_okF RX11 33 9 10 := ⟨_, rfl, by decide, in_X11, z_one (by decide +kernel)⟩
theorem op_X11_33 : z_okP RX11 33 9 10 (.array .int) true := ⟨_, tyX11, rfl, by decide, in_X11, z_one (by decide +kernel), tyX11_ok, nmX11, rfl, by decide +kernel, fun _ => rfl⟩
theorem of_X11_36 : z_okF RX11 36 9 12 := ⟨_, rfl, by decide, in_X11, z_one (by decide +kernel)⟩
theorem op_X11_36 : z_okP RX11 36 9 12 (.array .int) true := ⟨_, tyX11, rfl, by decide, in_X11, z_one (by decide +kernel), tyX11_ok, nmX11, rfl, by decide +kernel, fun _ => rfl⟩
theorem of_X11_39 : z_okF RX11 39 9 28 := ⟨_, rfl, by decide, in_X11, z_one (by decide +kernel)⟩
theorem op_X11_39 : z_okP RX11 39 9 28 (.array .int) true := ⟨_, tyX11, rfl, by decide, in_X11, z_one (by decide +kernel), tyX11_ok, nmX11, rfl, by decide +kernel, fun _ => rfl⟩
theorem of_X11_42 : z_okF RX11 42 9 30 := ⟨_, rfl, by decide, in_X11, z_one (by decide +kernel)⟩
theorem op_X11_42 : z_okP RX11 42 9 30 (.array .long) true := ⟨_, tyX11, rfl, by decide, in_X11, z_one (by decide +kernel), tyX11_ok, nmX11, rfl, by decide +kernel, fun _ => rfl⟩
theorem of_X11_46 : z_okF RX11 46 9 31 := ⟨_, rfl, by decide, in_X11, z_one (by decide +kernel)⟩
theorem op_X11_46 : z_okP RX11 46 9 31 (.array .int) true := ⟨_, tyX11, rfl, by decide, in_X11, z_one (by decide +kernel), tyX11_ok, nmX11, rfl, by decide +kernel, fun _ => rfl⟩
theorem of_X11_49 : z_okF RX11 49 9 32 := ⟨_, rfl, by decide, in_X11, z_one (by decide +kernel)⟩
theorem op_X11_49 : z_okP RX11 49 9 32 (.array .int) true := ⟨_, tyX11, rfl, by decide, in_X11, z_one (by decide +kernel), tyX11_ok, nmX11, rfl, by decide +kernel, fun _ => rfl⟩
theorem of_X11_52 : z_okF RX11 52 9 33 := ⟨_, rfl, by decide, in_X11, z_one (by decide +kernel)⟩
theorem op_X11_52 : z_okP RX11 52 9 33 (.array .int) true := ⟨_, tyX11, rfl, by decide, in_X11, z_one (by decide +kernel), tyX11_ok, nmX11, rfl, by decide +kernel, fun _ => rfl⟩
theorem of_X11_55 : z_okF RX11 55 9 34 := ⟨_, rfl, by decide, in_X11, z_one (by decide +kernel)⟩
theorem op_X11_55 : z_okP RX11 55 9 34 (.array .int) true := ⟨_, tyX11, rfl, by decide, in_X11, z_one (by decide +kernel), tyX11_ok, nmX11, rfl, by decide +kernel, fun _ => rfl⟩
theorem of_X11_58 : z_okF RX11 58 9 35 := ⟨_, rfl, by decide, in_X11, z_one (by decide +kernel)⟩
theorem op_X11_58 : z_okP RX11 58 9 35 (.array .long) true := ⟨_, tyX11, rfl, by decide, in_X11, z_one (by decide +kernel), tyX11_ok, nmX11, rfl, by decide +kernel, fun _ => rfl⟩
theorem of_X11_61 : z_okF RX11 61 9 36 := ⟨_, rfl, by decide, in_X11, z_one (by decide +kernel)⟩
theorem op_X11_61 : z_okP RX11 61 9 36 (.array .int) true := ⟨_, tyX11, rfl, by decide, in_X11, z_one (by decide +kernel), tyX11_ok, nmX11, rfl, by decide +kernel, fun _ => rfl⟩
theorem of_X11_64 : z_okF RX11 64 9 41 := ⟨_, rfl, by decide, in_X11, z_one (by decide +kernel)⟩
theorem op_X11_64 : z_okP RX11 64 9 41 (.array .int) true := ⟨_, tyX11, rfl, by decide, in_X11, z_one (by decide +kernel), tyX11_ok, nmX11, rfl, by decide +kernel, fun _ => rfl⟩
theorem of_X11_67 : z_okF RX11 67 9 42 := ⟨_, rfl, by decide, in_X11, z_one (by decide +kernel)⟩
theorem op_X11_67 : z_okP RX11 67 9 42 (.array .int) true := ⟨_, tyX11, rfl, by decide, in_X11, z_one (by decide +kernel), tyX11_ok, nmX11, rfl, by decide +kernel, fun _ => rfl⟩
theorem of_X11_70 : z_okF RX11 70 9 43 := ⟨_, rfl, by decide, in_X11, z_one (by decide +kernel)⟩
theorem op_X11_70 : z_okP RX11 70 9 43 (.array .int) true := ⟨_, tyX11, rfl, by decide, in_X11, z_one (by decide +kernel), tyX11_ok, nmX11, rfl, by decide +kernel, fun _ => rfl⟩
theorem of_X11_73 : z_okF RX11 73 9 44 := ⟨_, rfl, by decide, in_X11, z_one (by decide +kernel)⟩
theorem op_X11_73 : z_okP RX11 73 9 44 (.array .int) true := ⟨_, tyX11, rfl, by decide, in_X11, z_one (by decide +kernel), tyX11_ok, nmX11, rfl, by decide +kernel, fun _ => rfl⟩
theorem of_X11_76 : z_okF RX11 76 9 45 := ⟨_, rfl, by decide, in_X11, z_one (by decide +kernel)⟩
theorem op_X11_76 : z_okP RX11 76 9 45 (.array .long) true := ⟨_, tyX11, rfl, by decide, in_X11, z_one (by decide +kernel), tyX11_ok, nmX11, rfl, by decide +kernel, fun _ => rfl⟩
theorem of_X11_79 : z_okF RX11 79 9 46 := ⟨_, rfl, by decide, in_X11, z_one (by decide +kernel)⟩
theorem op_X11_79 : z_okP RX11 79 9 46 (.array .int) true := ⟨_, tyX11, rfl, by decide, in_X11, z_one (by decide +kernel), tyX11_ok, nmX11, rfl, by decide +kernel, fun _ => rfl⟩
theorem of_X11_82 : z_okF RX11 82 9 47 := ⟨_, rfl, by decide, in_X11, z_one (by decide +kernel)⟩
theorem op_X11_82 : z_okP RX11 82 9 47 (.array .long) true := ⟨_, tyX11, rfl, by decide, in_X11, z_one (by decide +kernel), tyX11_ok, nmX11, rfl, by decide +kernel, fun _ => rfl⟩
theorem of_X11_85 : z_okF RX11 85 9 48 := ⟨_, rfl, by decide, in_X11, z_one (by decide +kernel)⟩
theorem op_X11_85 : z_okP RX11 85 9 48 (.array .int) true := ⟨_, tyX11, rfl, by decide, in_X11, z_one (by decide +kernel), tyX11_ok, nmX11, rfl, by decide +kernel, fun _ => rfl⟩
theorem of_X11_88 : z_okF RX11 88 9 49 := ⟨_, rfl, by decide, in_X11, z_one (by decide +kernel)⟩
theorem op_X11_88 : z_okP RX11 88 9 49 (.array .int) true := ⟨_, tyX11, rfl, by decide, in_X11, z_one (by decide +kernel), tyX11_ok, nmX11, rfl, by decide +kernel, fun _ => rfl⟩
theorem of_X11_91 : z_okF RX11 91 9 52 := ⟨_, rfl, by decide, in_X11, z_one (by decide +kernel)⟩
theorem op_X11_91 : z_okP RX11 91 9 52 (.array .int) true := ⟨_, tyX11, rfl, by decide, in_X11, z_one (by decide +kernel), tyX11_ok, nmX11, rfl, by decide +kernel, fun _ => rfl⟩
theorem of_X11_94 : z_okF RX11 94 9 53 := ⟨_, rfl, by decide, in_X11, z_one (by decide +kernel)⟩
theorem op_X11_94 : z_okP RX11 94 9 53 (.array .int) true := ⟨_, tyX11, rfl, by decide, in_X11, z_one (by decide +kernel), tyX11_ok, nmX11, rfl, by decide +kernel, fun _ => rfl⟩
theorem of_X11_97 : z_okF RX11 97 9 54 := ⟨_, rfl, by decide, in_X11, z_one (by decide +kernel)⟩
theorem op_X11_97 : z_okP RX11 97 9 54 (.array .int) true := ⟨_, tyX11, rfl, by decide, in_X11, z_one (by decide +kernel), tyX11_ok, nmX11, rfl, by decide +kernel, fun _ => rfl⟩
theorem of_X11_100 : z_okF RX11 100 9 55 := ⟨_, rfl, by decide, in_X11, z_one (by decide +kernel)⟩
theorem op_X11_100 : z_okP RX11 100 9 55 .int false := ⟨_, tyX11, rfl, by decide, in_X11, z_one (by decide +kernel), tyX11_ok, nmX11, rfl, by decide +kernel, fun h => by cases h⟩
theorem of_X11_104 : z_okF RX11 104 9 63 := ⟨_, rfl, by decide, in_X11, z_one (by decide +kernel)⟩
theorem op_X11_104 : z_okP RX11 104 9 63 (.array .int) true := ⟨_, tyX11, rfl, by decide, in_X11, z_one (by decide +kernel), tyX11_ok, nmX11, rfl, by decide +kernel, fun _ => rfl⟩
theorem of_X11_107 : z_okF RX11 107 9 64 := ⟨_, rfl, by decide, in_X11, z_one (by decide +kernel)⟩
theorem op_X11_107 : z_okP RX11 107 9 64 (.array .int) true := ⟨_, tyX11, rfl, by decide, in_X11, z_one (by decide +kernel), tyX11_ok, nmX11, rfl, by decide +kernel, fun _ => rfl⟩
theorem of_X11_110 : z_okF RX11 110 9 65 := ⟨_, rfl, by decide, in_X11, z_one (by decide +kernel)⟩
theorem op_X11_110 : z_okP RX11 110 9 65 (.array .int) true := ⟨_, tyX11, rfl, by decide, in_X11, z_one (by decide +kernel), tyX11_ok, nmX11, rfl, by decide +kernel, fun _ => rfl⟩
theorem of_X11_113 : z_okF RX11 113 9 66 := ⟨_, rfl, by decide, in_X11, z_one (by decide +kernel)⟩
theorem op_X11_113 : z_okP RX11 113 9 66 (.array .int) true := ⟨_, tyX11, rfl, by decide, in_X11, z_one (by decide +kernel), tyX11_ok, nmX11, rfl, by decide +kernel, fun _ => rfl⟩
theorem of_X11_116 : z_okF RX11 116 9 68 := ⟨_, rfl, by decide, in_X11, z_one (by decide +kernel)⟩
theorem op_X11_116 : z_okP RX11 116 9 68 (.array .int) true := ⟨_, tyX11, rfl, by decide, in_X11, z_one (by decide +kernel), tyX11_ok, nmX11, rfl, by decide +kernel, fun _ => rfl⟩
theorem of_X11_119 : z_okF RX11 119 9 0 := ⟨_, rfl, by decide, in_X11, z_one (by decide +kernel)⟩
theorem op_X11_119 : z_okP RX11 119 9 0 .int true := ⟨_, tyX11, rfl, by decide, in_X11, z_one (by decide +kernel), tyX11_ok, nmX11, rfl, by decide +kernel, fun _ => rfl⟩
theorem of_X11_122 : z_okF RX11 122 9 1 := ⟨_, rfl, by decide, in_X11, z_one (by decide +kernel)⟩
theorem op_X11_122 : z_okP RX11 122 9 1 .int true := ⟨_, tyX11, rfl, by decide, in_X11, z_one (by decide +kernel), tyX11_ok, nmX11, rfl, by decide +kernel, fun _ => rfl⟩
theorem of_X11_125 : z_okF RX11 125 9 17 := ⟨_, rfl, by decide, in_X11, z_one (by decide +kernel)⟩
theorem op_X11_125 : z_okP RX11 125 9 17 .int false := ⟨_, tyX11, rfl, by decide, in_X11, z_one (by decide +kernel), tyX11_ok, nmX11, rfl, by decide +kernel, fun h => by cases h⟩
theorem of_X11_131 : z_okF RX11 131 9 2 := ⟨_, rfl, by decide, in_X11, z_one (by decide +kernel)⟩
theorem op_X11_131 : z_okP RX11 131 9 2 .int false := ⟨_, tyX11, rfl, by decide, in_X11, z_one (by decide +kernel), tyX11_ok, nmX11, rfl, by decide +kernel, fun h => by cases h⟩
theorem of_X11_134 : z_okF RX11 134 9 18 := ⟨_, rfl, by decide, in_X11, z_one (by decide +kernel)⟩
theorem op_X11_134 : z_okP RX11 134 9 18 .int false := ⟨_, tyX11, rfl, by decide, in_X11, z_one (by decide +kernel), tyX11_ok, nmX11, rfl, by decide +kernel, fun h => by cases h⟩
theorem of_X11_137 : z_okF RX11 137 9 15 := ⟨_, rfl, by decide, in_X11, z_one (by decide +kernel)⟩
theorem op_X11_137 : z_okP RX11 137 9 15 .int false := ⟨_, tyX11, rfl, by decide, in_X11, z_one (by decide +kernel), tyX11_ok, nmX11, rfl, by decide +kernel, fun h => by cases h⟩
theorem of_X11_144 : z_okF RX11 144 9 23 := ⟨_, rfl, by decide, in_X11, z_one (by decide +kernel)⟩
theorem op_X11_144 : z_okP RX11 144 9 23 .int false := ⟨_, tyX11, rfl, by decide, in_X11, z_one (by decide +kernel), tyX11_ok, nmX11, rfl, by decide +kernel, fun h => by cases h⟩
theorem of_X11_147 : z_okF RX11 147 9 13 := ⟨_, rfl, by decide, in_X11, z_one (by decide +kernel)⟩
theorem op_X11_147 : z_okP RX11 147 9 13 .int false := ⟨_, tyX11, rfl, by decide, in_X11, z_one (by decide +kernel), tyX11_ok, nmX11, rfl, by decide +kernel, fun h => by cases h⟩
theorem of_X11_150 : z_okF RX11 150 9 20 := ⟨_, rfl, by decide, in_X11, z_one (by decide +kernel)⟩
theorem op_X11_150 : z_okP RX11 150 9 20 .int false := ⟨_, tyX11, rfl, by decide, in_X11, z_one (by decide +kernel), tyX11_ok, nmX11, rfl, by decide +kernel, fun h => by cases h⟩
theorem of_X11_153 : z_okF RX11 153 9 16 := ⟨_, rfl, by decide, in_X11, z_one (by decide +kernel)⟩
theorem op_X11_153 : z_okP RX11 153 9 16 .int false := ⟨_, tyX11, rfl, by decide, in_X11, z_one (by decide +kernel), tyX11_ok, nmX11, rfl, by decide +kernel, fun h => by cases h⟩
theorem of_X11_156 : z_okF RX11 156 9 14 := ⟨_, rfl, by decide, in_X11, z_one (by decide +kernel)⟩
theorem op_X11_156 : z_okP RX11 156 9 14 .int false := ⟨_, tyX11, rfl, by decide, in_X11, z_one (by decide +kernel), tyX11_ok, nmX11, rfl, by decide +kernel, fun h => by cases h⟩
theorem of_X11_167 : z_okF RX11 167 9 21 := ⟨_, rfl, by decide, in_X11, z_one (by decide +kernel)⟩
theorem op_X11_167 : z_okP RX11 167 9 21 .int false := ⟨_, tyX11, rfl, by decide, in_X11, z_one (by decide +kernel), tyX11_ok, nmX11, rfl, by decide +kernel, fun h => by cases h⟩
theorem of_X11_170 : z_okF RX11 170 9 19 := ⟨_, rfl, by decide, in_X11, z_one (by decide +kernel)⟩
theorem op_X11_170 : z_okP RX11 170 9 19 .int false := ⟨_, tyX11, rfl, by decide, in_X11, z_one (by decide +kernel), tyX11_ok, nmX11, rfl, by decide +kernel, fun h => by cases h⟩
theorem of_X11_173 : z_okF RX11 173 9 11 := ⟨_, rfl, by decide, in_X11, z_one (by decide +kernel)⟩
theorem op_X11_173 : z_okP RX11 173 9 11 .int false := ⟨_, tyX11, rfl, by decide, in_X11, z_one (by decide +kernel), tyX11_ok, nmX11, rfl, by decide +kernel, fun h => by cases h⟩
theorem of_X11_176 : z_okF RX11 176 9 27 := ⟨_, rfl, by decide, in_X11, z_one (by decide +kernel)⟩
theorem op_X11_176 : z_okP RX11 176 9 27 .int false := ⟨_, tyX11, rfl, by decide, in_X11, z_one (by decide +kernel), tyX11_ok, nmX11, rfl, by decide +kernel, fun h => by cases h⟩
theorem of_X11_183 : z_okF RX11 183 9 26 := ⟨_, rfl, by decide, in_X11, z_one (by decide +kernel)⟩
theorem op_X11_183 : z_okP RX11 183 9 26 .int false := ⟨_, tyX11, rfl, by decide, in_X11, z_one (by decide +kernel), tyX11_ok, nmX11, rfl, by decide +kernel, fun h => by cases h⟩
theorem of_X11_186 : z_okF RX11 186 9 24 := ⟨_, rfl, by decide, in_X11, z_one (by decide +kernel)⟩
theorem op_X11_186 : z_okP RX11 186 9 24 .int false := ⟨_, tyX11, rfl, by decide, in_X11, z_one (by decide +kernel), tyX11_ok, nmX11, rfl, by decide +kernel, fun h => by cases h⟩
theorem of_X11_192 : z_okF RX11 192 9 25 := ⟨_, rfl, by decide, in_X11, z_one (by decide +kernel)⟩
theorem op_X11_192 : z_okP RX11 192 9 25 .int false := ⟨_, tyX11, rfl, by decide, in_X11, z_one (by decide +kernel), tyX11_ok, nmX11, rfl, by decide +kernel, fun h => by cases h⟩
theorem of_X11_195 : z_okF RX11 195 9 22 := ⟨_, rfl, by decide, in_X11, z_one (by decide +kernel)⟩
theorem op_X11_195 : z_okP RX11 195 9 22 .int false := ⟨_, tyX11, rfl, by decide, in_X11, z_one (by decide +kernel), tyX11_ok, nmX11, rfl, by decide +kernel, fun h => by cases h⟩
theorem of_X11_253 : z_okF RX11 253 9 29 := ⟨_, rfl, by decide, in_X11, z_one (by decide +kernel)⟩
theorem op_X11_253 : z_okP RX11 253 9 29 .int false := ⟨_, tyX11, rfl, by decide, in_X11, z_one (by decide +kernel), tyX11_ok, nmX11, rfl, by decide +kernel, fun h => by cases h⟩
theorem of_X11_260 : z_okF RX11 260 9 39 := ⟨_, rfl, by decide, in_X11, z_one (by decide +kernel)⟩
theorem op_X11_260 : z_okP RX11 260 9 39 .int false := ⟨_, tyX11, rfl, by decide, in_X11, z_one (by decide +kernel), tyX11_ok, nmX11, rfl, by decide +kernel, fun h => by cases h⟩
theorem of_X11_263 : z_okF RX11 263 9 40 := ⟨_, rfl, by decide, in_X11, z_one (by decide +kernel)⟩
theorem op_X11_263 : z_okP RX11 263 9 40 .int false := ⟨_, tyX11, rfl, by decide, in_X11, z_one (by decide +kernel), tyX11_ok, nmX11, rfl, by decide +kernel, fun h => by cases h⟩
theorem of_X11_266 : z_okF RX11 266 9 37 := ⟨_, rfl, by decide, in_X11, z_one (by decide +kernel)⟩
theorem op_X11_266 : z_okP RX11 266 9 37 .int false := ⟨_, tyX11, rfl, by decide, in_X11, z_one (by decide +kernel), tyX11_ok, nmX11, rfl, by decide +kernel, fun h => by cases h⟩
theorem of_X11_300 : z_okF RX11 300 9 51 := ⟨_, rfl, by decide, in_X11, z_one (by decide +kernel)⟩
theorem op_X11_300 : z_okP RX11 300 9 51 .int false := ⟨_, tyX11, rfl, by decide, in_X11, z_one (by decide +kernel), tyX11_ok, nmX11, rfl, by decide +kernel, fun h => by cases h⟩
theorem of_X11_303 : z_okF RX11 303 9 38 := ⟨_, rfl, by decide, in_X11, z_one (by decide +kernel)⟩
theorem op_X11_303 : z_okP RX11 303 9 38 .int false := ⟨_, tyX11, rfl, by decide, in_X11, z_one (by decide +kernel), tyX11_ok, nmX11, rfl, by decide +kernel, fun h => by cases h⟩
theorem of_X11_310 : z_okF RX11 310 9 50 := ⟨_, rfl, by decide, in_X11, z_one (by decide +kernel)⟩
theorem op_X11_310 : z_okP RX11 310 9 50 .int false := ⟨_, tyX11, rfl, by decide, in_X11, z_one (by decide +kernel), tyX11_ok, nmX11, rfl, by decide +kernel, fun h => by cases h⟩
theorem of_X11_322 : z_okF RX11 322 9 56 := ⟨_, rfl, by decide, in_X11, z_one (by decide +kernel)⟩
theorem op_X11_322 : z_okP RX11 322 9 56 .int false := ⟨_, tyX11, rfl, by decide, in_X11, z_one (by decide +kernel), tyX11_ok, nmX11, rfl, by decide +kernel, fun h => by cases h⟩
theorem of_X11_325 : z_okF RX11 325 9 57 := ⟨_, rfl, by decide, in_X11, z_one (by decide +kernel)⟩
theorem op_X11_325 : z_okP RX11 325 9 57 .int false := ⟨_, tyX11, rfl, by decide, in_X11, z_one (by decide +kernel), tyX11_ok, nmX11, rfl, by decide +kernel, fun h => by cases h⟩
theorem of_X11_328 : z_okF RX11 328 9 59 := ⟨_, rfl, by decide, in_X11, z_one (by decide +kernel)⟩
theorem op_X11_328 : z_okP RX11 328 9 59 .int false := ⟨_, tyX11, rfl, by decide, in_X11, z_one (by decide +kernel), tyX11_ok, nmX11, rfl, by decide +kernel, fun h => by cases h⟩
theorem of_X11_331 : z_okF RX11 331 9 60 := ⟨_, rfl, by decide, in_X11, z_one (by decide +kernel)⟩
theorem op_X11_331 : z_okP RX11 331 9 60 .int false := ⟨_, tyX11, rfl, by decide, in_X11, z_one (by decide +kernel), tyX11_ok, nmX11, rfl, by decide +kernel, fun h => by cases h⟩
theorem of_X11_334 : z_okF RX11 334 9 61 := ⟨_, rfl, by decide, in_X11, z_one (by decide +kernel)⟩
theorem op_X11_334 : z_okP RX11 334 9 61 .int false := ⟨_, tyX11, rfl, by decide, in_X11, z_one (by decide +kernel), tyX11_ok, nmX11, rfl, by decide +kernel, fun h => by cases h⟩
theorem of_X11_337 : z_okF RX11 337 9 62 := ⟨_, rfl, by decide, in_X11, z_one (by decide +kernel)⟩
theorem op_X11_337 : z_okP RX11 337 9 62 .int false := ⟨_, tyX11, rfl, by decide, in_X11, z_one (by decide +kernel), tyX11_ok, nmX11, rfl, by decide +kernel, fun h => by cases h⟩
theorem of_X11_340 : z_okF RX11 340 9 58 := ⟨_, rfl, by decide, in_X11, z_one (by decide +kernel)⟩
theorem op_X11_340 : z_okP RX11 340 9 58 .int false := ⟨_, tyX11, rfl, by decide, in_X11, z_one (by decide +kernel), tyX11_ok, nmX11, rfl, by decide +kernel, fun h => by cases h⟩
theorem of_X11_352 : z_okF RX11 352 9 67 := ⟨_, rfl, by decide, in_X11, z_one (by decide +kernel)⟩
theorem op_X11_352 : z_okP RX11 352 9 67 .int false := ⟨_, tyX11, rfl, by decide, in_X11, z_one (by decide +kernel), tyX11_ok, nmX11, rfl, by decide +kernel, fun h => by cases h⟩
theorem of_X11_361 : z_okF RX11 361 9 69 := ⟨_, rfl, by decide, in_X11, z_one (by decide +kernel)⟩
theorem op_X11_361 : z_okP RX11 361 9 69 .int false := ⟨_, tyX11, rfl, by decide, in_X11, z_one (by decide +kernel), tyX11_ok, nmX11, rfl, by decide +kernel, fun h => by cases h⟩
theorem of_X2_9 : z_okF RX2 9 0 0 := ⟨_, rfl, by decide, in_X2, z_one (by decide +kernel)⟩
theorem op_X2_9 : z_okP RX2 9 0 0 (.object "TwinHalves$Memory") true := ⟨_, tyX2, rfl, by decide, in_X2, z_one (by decide +kernel), tyX2_ok, nmX2, rfl, by decide +kernel, fun _ => rfl⟩
theorem of_X2_33 : z_okF RX2 33 1 4 := ⟨_, rfl, by decide, in_X3, z_one (by decide +kernel)⟩
theorem of_X2_36 : z_okF RX2 36 1 5 := ⟨_, rfl, by decide, in_X3, z_one (by decide +kernel)⟩
theorem of_X2_89 : z_okF RX2 89 1 2 := ⟨_, rfl, by decide, in_X3, z_one (by decide +kernel)⟩
theorem of_X2_92 : z_okF RX2 92 1 3 := ⟨_, rfl, by decide, in_X3, z_one (by decide +kernel)⟩
theorem of_X2_102 : z_okF RX2 102 1 6 := ⟨_, rfl, by decide, in_X3, z_one (by decide +kernel)⟩
theorem op_X2_102 : z_okP RX2 102 1 6 .int false := ⟨_, tyX3, rfl, by decide, in_X3, z_one (by decide +kernel), tyX3_ok, nmX3, rfl, by decide +kernel, fun h => by cases h⟩
theorem of_X3_9 : z_okF RX3 9 1 4 := ⟨_, rfl, by decide, in_X3, z_one (by decide +kernel)⟩
theorem op_X3_9 : z_okP RX3 9 1 4 (.array .int) true := ⟨_, tyX3, rfl, by decide, in_X3, z_one (by decide +kernel), tyX3_ok, nmX3, rfl, by decide +kernel, fun _ => rfl⟩
theorem of_X3_15 : z_okF RX3 15 1 5 := ⟨_, rfl, by decide, in_X3, z_one (by decide +kernel)⟩
theorem op_X3_15 : z_okP RX3 15 1 5 (.array .int) true := ⟨_, tyX3, rfl, by decide, in_X3, z_one (by decide +kernel), tyX3_ok, nmX3, rfl, by decide +kernel, fun _ => rfl⟩
theorem of_X3_18 : z_okF RX3 18 1 11 := ⟨_, rfl, by decide, in_X3, z_one (by decide +kernel)⟩
theorem op_X3_18 : z_okP RX3 18 1 11 (.array .int) true := ⟨_, tyX3, rfl, by decide, in_X3, z_one (by decide +kernel), tyX3_ok, nmX3, rfl, by decide +kernel, fun _ => rfl⟩
theorem of_X3_21 : z_okF RX3 21 1 0 := ⟨_, rfl, by decide, in_X3, z_one (by decide +kernel)⟩
theorem op_X3_21 : z_okP RX3 21 1 0 .int true := ⟨_, tyX3, rfl, by decide, in_X3, z_one (by decide +kernel), tyX3_ok, nmX3, rfl, by decide +kernel, fun _ => rfl⟩
theorem of_X3_25 : z_okF RX3 25 1 1 := ⟨_, rfl, by decide, in_X3, z_one (by decide +kernel)⟩
theorem op_X3_25 : z_okP RX3 25 1 1 .int true := ⟨_, tyX3, rfl, by decide, in_X3, z_one (by decide +kernel), tyX3_ok, nmX3, rfl, by decide +kernel, fun _ => rfl⟩
theorem of_X3_28 : z_okF RX3 28 1 2 := ⟨_, rfl, by decide, in_X3, z_one (by decide +kernel)⟩
theorem op_X3_28 : z_okP RX3 28 1 2 (.array .int) true := ⟨_, tyX3, rfl, by decide, in_X3, z_one (by decide +kernel), tyX3_ok, nmX3, rfl, by decide +kernel, fun _ => rfl⟩
theorem of_X3_31 : z_okF RX3 31 1 3 := ⟨_, rfl, by decide, in_X3, z_one (by decide +kernel)⟩
theorem op_X3_31 : z_okP RX3 31 1 3 (.array .int) true := ⟨_, tyX3, rfl, by decide, in_X3, z_one (by decide +kernel), tyX3_ok, nmX3, rfl, by decide +kernel, fun _ => rfl⟩
theorem of_X3_34 : z_okF RX3 34 1 10 := ⟨_, rfl, by decide, in_X3, z_one (by decide +kernel)⟩
theorem op_X3_34 : z_okP RX3 34 1 10 .int false := ⟨_, tyX3, rfl, by decide, in_X3, z_one (by decide +kernel), tyX3_ok, nmX3, rfl, by decide +kernel, fun h => by cases h⟩
theorem of_X3_37 : z_okF RX3 37 1 6 := ⟨_, rfl, by decide, in_X3, z_one (by decide +kernel)⟩
theorem of_X3_65 : z_okF RX3 65 1 8 := ⟨_, rfl, by decide, in_X3, z_one (by decide +kernel)⟩
theorem op_X3_65 : z_okP RX3 65 1 8 .int false := ⟨_, tyX3, rfl, by decide, in_X3, z_one (by decide +kernel), tyX3_ok, nmX3, rfl, by decide +kernel, fun h => by cases h⟩
theorem of_X3_68 : z_okF RX3 68 1 7 := ⟨_, rfl, by decide, in_X3, z_one (by decide +kernel)⟩
theorem op_X3_68 : z_okP RX3 68 1 7 .int false := ⟨_, tyX3, rfl, by decide, in_X3, z_one (by decide +kernel), tyX3_ok, nmX3, rfl, by decide +kernel, fun h => by cases h⟩
theorem of_X3_74 : z_okF RX3 74 1 9 := ⟨_, rfl, by decide, in_X3, z_one (by decide +kernel)⟩
theorem op_X3_74 : z_okP RX3 74 1 9 .int false := ⟨_, tyX3, rfl, by decide, in_X3, z_one (by decide +kernel), tyX3_ok, nmX3, rfl, by decide +kernel, fun h => by cases h⟩
theorem op_X4_9 : z_okP RX4 9 2 0 (.array .int) true := ⟨_, tyX4, rfl, by decide, in_X4, z_one (by decide +kernel), tyX4_ok, nmX4, rfl, by decide +kernel, fun _ => rfl⟩
theorem op_X4_15 : z_okP RX4 15 2 1 (.array .int) true := ⟨_, tyX4, rfl, by decide, in_X4, z_one (by decide +kernel), tyX4_ok, nmX4, rfl, by decide +kernel, fun _ => rfl⟩
theorem op_X4_18 : z_okP RX4 18 2 2 (.array .int) true := ⟨_, tyX4, rfl, by decide, in_X4, z_one (by decide +kernel), tyX4_ok, nmX4, rfl, by decide +kernel, fun _ => rfl⟩
theorem of_X4_21 : z_okF RX4 21 2 3 := ⟨_, rfl, by decide, in_X4, z_one (by decide +kernel)⟩
theorem op_X4_21 : z_okP RX4 21 2 3 (.array .long) true := ⟨_, tyX4, rfl, by decide, in_X4, z_one (by decide +kernel), tyX4_ok, nmX4, rfl, by decide +kernel, fun _ => rfl⟩
theorem of_X4_25 : z_okF RX4 25 2 4 := ⟨_, rfl, by decide, in_X4, z_one (by decide +kernel)⟩
theorem of_X5_12 : z_okF RX5 12 3 0 := ⟨_, rfl, by decide, in_X5, z_one (by decide +kernel)⟩
theorem op_X5_12 : z_okP RX5 12 3 0 (.object "TwinHalves$Tokens") true := ⟨_, tyX5, rfl, by decide, in_X5, z_one (by decide +kernel), tyX5_ok, nmX5, rfl, by decide +kernel, fun _ => rfl⟩
theorem of_X5_18 : z_okF RX5 18 3 1 := ⟨_, rfl, by decide, in_X5, z_one (by decide +kernel)⟩
theorem op_X5_18 : z_okP RX5 18 3 1 .int false := ⟨_, tyX5, rfl, by decide, in_X5, z_one (by decide +kernel), tyX5_ok, nmX5, rfl, by decide +kernel, fun h => by cases h⟩
theorem of_X5_22 : z_okF RX5 22 2 4 := ⟨_, rfl, by decide, in_X4, z_one (by decide +kernel)⟩
theorem op_X5_22 : z_okP RX5 22 2 4 .int false := ⟨_, tyX4, rfl, by decide, in_X4, z_one (by decide +kernel), tyX4_ok, nmX4, rfl, by decide +kernel, fun h => by cases h⟩
theorem op_X5_31 : z_okP RX5 31 3 2 .int false := ⟨_, tyX5, rfl, by decide, in_X5, z_one (by decide +kernel), tyX5_ok, nmX5, rfl, by decide +kernel, fun h => by cases h⟩
theorem of_X5_34 : z_okF RX5 34 6 4 := ⟨_, rfl, by decide, in_X8, z_one (by decide +kernel)⟩
theorem of_X5_64 : z_okF RX5 64 2 3 := ⟨_, rfl, by decide, in_X4, z_one (by decide +kernel)⟩
theorem of_X5_72 : z_okF RX5 72 2 0 := ⟨_, rfl, by decide, in_X4, z_one (by decide +kernel)⟩
theorem of_X5_76 : z_okF RX5 76 2 2 := ⟨_, rfl, by decide, in_X4, z_one (by decide +kernel)⟩
theorem of_X5_117 : z_okF RX5 117 2 1 := ⟨_, rfl, by decide, in_X4, z_one (by decide +kernel)⟩
theorem of_X6_11 : z_okF RX6 11 4 6 := ⟨_, rfl, by decide, in_X6, z_one (by decide +kernel)⟩
theorem op_X6_11 : z_okP RX6 11 4 6 (.array .int) true := ⟨_, tyX6, rfl, by decide, in_X6, z_one (by decide +kernel), tyX6_ok, nmX6, rfl, by decide +kernel, fun _ => rfl⟩
theorem of_X6_15 : z_okF RX6 15 4 8 := ⟨_, rfl, by decide, in_X6, z_one (by decide +kernel)⟩
theorem op_X6_15 : z_okP RX6 15 4 8 (.array .int) true := ⟨_, tyX6, rfl, by decide, in_X6, z_one (by decide +kernel), tyX6_ok, nmX6, rfl, by decide +kernel, fun _ => rfl⟩
theorem of_X6_18 : z_okF RX6 18 4 0 := ⟨_, rfl, by decide, in_X6, z_one (by decide +kernel)⟩
theorem op_X6_18 : z_okP RX6 18 4 0 (.object "TwinHalves$Doer") true := ⟨_, tyX6, rfl, by decide, in_X6, z_one (by decide +kernel), tyX6_ok, nmX6, rfl, by decide +kernel, fun _ => rfl⟩
theorem of_X6_22 : z_okF RX6 22 4 1 := ⟨_, rfl, by decide, in_X6, z_one (by decide +kernel)⟩
theorem op_X6_22 : z_okP RX6 22 4 1 (.object "TwinHalves$Program") false := ⟨_, tyX6, rfl, by decide, in_X6, z_one (by decide +kernel), tyX6_ok, nmX6, rfl, by decide +kernel, fun h => by cases h⟩
theorem of_X6_26 : z_okF RX6 26 4 2 := ⟨_, rfl, by decide, in_X6, z_one (by decide +kernel)⟩
theorem op_X6_26 : z_okP RX6 26 4 2 .int false := ⟨_, tyX6, rfl, by decide, in_X6, z_one (by decide +kernel), tyX6_ok, nmX6, rfl, by decide +kernel, fun h => by cases h⟩
theorem of_X6_30 : z_okF RX6 30 4 3 := ⟨_, rfl, by decide, in_X6, z_one (by decide +kernel)⟩
theorem op_X6_30 : z_okP RX6 30 4 3 .int false := ⟨_, tyX6, rfl, by decide, in_X6, z_one (by decide +kernel), tyX6_ok, nmX6, rfl, by decide +kernel, fun h => by cases h⟩
theorem of_X6_33 : z_okF RX6 33 4 4 := ⟨_, rfl, by decide, in_X6, z_one (by decide +kernel)⟩
theorem op_X6_33 : z_okP RX6 33 4 4 .int false := ⟨_, tyX6, rfl, by decide, in_X6, z_one (by decide +kernel), tyX6_ok, nmX6, rfl, by decide +kernel, fun h => by cases h⟩
theorem of_X6_36 : z_okF RX6 36 4 5 := ⟨_, rfl, by decide, in_X6, z_one (by decide +kernel)⟩
theorem op_X6_36 : z_okP RX6 36 4 5 .int false := ⟨_, tyX6, rfl, by decide, in_X6, z_one (by decide +kernel), tyX6_ok, nmX6, rfl, by decide +kernel, fun h => by cases h⟩
theorem of_X6_39 : z_okF RX6 39 4 7 := ⟨_, rfl, by decide, in_X6, z_one (by decide +kernel)⟩
theorem op_X6_39 : z_okP RX6 39 4 7 .int false := ⟨_, tyX6, rfl, by decide, in_X6, z_one (by decide +kernel), tyX6_ok, nmX6, rfl, by decide +kernel, fun h => by cases h⟩
theorem of_X6_42 : z_okF RX6 42 4 9 := ⟨_, rfl, by decide, in_X6, z_one (by decide +kernel)⟩
theorem op_X6_42 : z_okP RX6 42 4 9 .int false := ⟨_, tyX6, rfl, by decide, in_X6, z_one (by decide +kernel), tyX6_ok, nmX6, rfl, by decide +kernel, fun h => by cases h⟩
theorem of_X6_56 : z_okF RX6 56 2 2 := ⟨_, rfl, by decide, in_X4, z_one (by decide +kernel)⟩
theorem of_X6_61 : z_okF RX6 61 2 0 := ⟨_, rfl, by decide, in_X4, z_one (by decide +kernel)⟩
theorem of_X6_64 : z_okF RX6 64 2 1 := ⟨_, rfl, by decide, in_X4, z_one (by decide +kernel)⟩
theorem of_X6_108 : z_okF RX6 108 2 4 := ⟨_, rfl, by decide, in_X4, z_one (by decide +kernel)⟩
theorem of_X7_9 : z_okF RX7 9 5 0 := ⟨_, rfl, by decide, in_X7, z_one (by decide +kernel)⟩
theorem op_X7_9 : z_okP RX7 9 5 0 (.array .byte) true := ⟨_, tyX7, rfl, by decide, in_X7, z_one (by decide +kernel), tyX7_ok, nmX7, rfl, by decide +kernel, fun _ => rfl⟩
theorem of_X7_13 : z_okF RX7 13 5 1 := ⟨_, rfl, by decide, in_X7, z_one (by decide +kernel)⟩
theorem op_X7_13 : z_okP RX7 13 5 1 .int false := ⟨_, tyX7, rfl, by decide, in_X7, z_one (by decide +kernel), tyX7_ok, nmX7, rfl, by decide +kernel, fun h => by cases h⟩
theorem of_X8_9 : z_okF RX8 9 6 0 := ⟨_, rfl, by decide, in_X8, z_one (by decide +kernel)⟩
theorem op_X8_9 : z_okP RX8 9 6 0 (.array .int) true := ⟨_, tyX8, rfl, by decide, in_X8, z_one (by decide +kernel), tyX8_ok, nmX8, rfl, by decide +kernel, fun _ => rfl⟩
theorem of_X8_15 : z_okF RX8 15 6 1 := ⟨_, rfl, by decide, in_X8, z_one (by decide +kernel)⟩
theorem op_X8_15 : z_okP RX8 15 6 1 (.array .int) true := ⟨_, tyX8, rfl, by decide, in_X8, z_one (by decide +kernel), tyX8_ok, nmX8, rfl, by decide +kernel, fun _ => rfl⟩
theorem of_X8_18 : z_okF RX8 18 6 2 := ⟨_, rfl, by decide, in_X8, z_one (by decide +kernel)⟩
theorem op_X8_18 : z_okP RX8 18 6 2 (.array .int) true := ⟨_, tyX8, rfl, by decide, in_X8, z_one (by decide +kernel), tyX8_ok, nmX8, rfl, by decide +kernel, fun _ => rfl⟩
theorem of_X8_21 : z_okF RX8 21 6 3 := ⟨_, rfl, by decide, in_X8, z_one (by decide +kernel)⟩
theorem op_X8_21 : z_okP RX8 21 6 3 (.array .long) true := ⟨_, tyX8, rfl, by decide, in_X8, z_one (by decide +kernel), tyX8_ok, nmX8, rfl, by decide +kernel, fun _ => rfl⟩
theorem of_X8_25 : z_okF RX8 25 6 4 := ⟨_, rfl, by decide, in_X8, z_one (by decide +kernel)⟩
theorem op_X8_25 : z_okP RX8 25 6 4 .int false := ⟨_, tyX8, rfl, by decide, in_X8, z_one (by decide +kernel), tyX8_ok, nmX8, rfl, by decide +kernel, fun h => by cases h⟩
theorem of_X8_29 : z_okF RX8 29 6 5 := ⟨_, rfl, by decide, in_X8, z_one (by decide +kernel)⟩
theorem op_X8_29 : z_okP RX8 29 6 5 .int false := ⟨_, tyX8, rfl, by decide, in_X8, z_one (by decide +kernel), tyX8_ok, nmX8, rfl, by decide +kernel, fun h => by cases h⟩
theorem of_X9_7 : z_okF RX9 7 7 0 := ⟨_, rfl, by decide, in_X9, z_one (by decide +kernel)⟩
theorem op_X9_7 : z_okP RX9 7 7 0 (.object "TwinHalves$Memory") true := ⟨_, tyX9, rfl, by decide, in_X9, z_one (by decide +kernel), tyX9_ok, nmX9, rfl, by decide +kernel, fun _ => rfl⟩
theorem of_X9_13 : z_okF RX9 13 1 0 := ⟨_, rfl, by decide, in_X3, z_one (by decide +kernel)⟩
theorem of_X9_19 : z_okF RX9 19 7 1 := ⟨_, rfl, by decide, in_X9, z_one (by decide +kernel)⟩
theorem op_X9_19 : z_okP RX9 19 7 1 (.array .int) true := ⟨_, tyX9, rfl, by decide, in_X9, z_one (by decide +kernel), tyX9_ok, nmX9, rfl, by decide +kernel, fun _ => rfl⟩
theorem of_X9_23 : z_okF RX9 23 7 2 := ⟨_, rfl, by decide, in_X9, z_one (by decide +kernel)⟩
theorem op_X9_23 : z_okP RX9 23 7 2 (.array .int) true := ⟨_, tyX9, rfl, by decide, in_X9, z_one (by decide +kernel), tyX9_ok, nmX9, rfl, by decide +kernel, fun _ => rfl⟩
theorem of_X9_33 : z_okF RX9 33 1 4 := ⟨_, rfl, by decide, in_X3, z_one (by decide +kernel)⟩
theorem of_X9_36 : z_okF RX9 36 1 5 := ⟨_, rfl, by decide, in_X3, z_one (by decide +kernel)⟩
theorem of_X9_43 : z_okF RX9 43 7 3 := ⟨_, rfl, by decide, in_X9, z_one (by decide +kernel)⟩
theorem op_X9_43 : z_okP RX9 43 7 3 .int false := ⟨_, tyX9, rfl, by decide, in_X9, z_one (by decide +kernel), tyX9_ok, nmX9, rfl, by decide +kernel, fun h => by cases h⟩
theorem of_X9_50 : z_okF RX9 50 1 2 := ⟨_, rfl, by decide, in_X3, z_one (by decide +kernel)⟩
theorem of_X9_53 : z_okF RX9 53 1 3 := ⟨_, rfl, by decide, in_X3, z_one (by decide +kernel)⟩
end ZS
