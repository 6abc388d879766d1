/-! The class's constructor. -/
def zE0 : zM := (fun _ => 0, fun _ => 0, fun _ _ => 0, fun _ _ => 0, fun _ _ => 0, 0)
def d_0 : zM := w_a zE0 1 0
def d_1 : zM := w_a d_0 9 0
def d_2 : zM := kRow d_1 2 12000
def d_3 : zM := w_p d_2 1 0 2
def d_4 : zM := w_a d_3 9 0
def d_5 : zM := kRow d_4 4 32768
def d_6 : zM := w_p d_5 1 1 4
def d_7 : zM := w_a d_6 4 0
def d_8 : zM := w_a d_7 9 0
def d_9 : zM := kRow d_8 7 12000
def d_10 : zM := w_p d_9 6 0 7
def d_11 : zM := w_a d_10 6 0
def d_12 : zM := kLat d_11 9
def d_13 : zM := w_p d_12 6 1 9
def d_14 : zM := w_j d_13 6 2 (0 : Int64)
def d_15 : zM := w_i d_14 6 3 (0 : Int32)
def d_16 : zM := w_a d_15 2 0
def d_17 : zM := w_a d_16 100 256
def d_18 : zM := w_p d_17 10 0 11
def d_19 : zM := w_a d_18 100 256
def d_20 : zM := w_p d_19 10 1 12
def d_21 : zM := w_a d_20 100 2048
def d_22 : zM := w_p d_21 10 2 13
def d_23 : zM := w_a d_22 11 0
def d_24 : zM := kSh d_23 14 6 11 12 64
def d_25 : zM := w_p d_24 10 3 14
def d_26 : zM := w_a d_25 12 0
def d_27 : zM := kStr d_26 20
def d_28 : zM := w_p d_27 10 4 20
def d_29 : zM := w_i d_28 10 5 (0 : Int32)
def d_30 : zM := w_i d_29 10 6 (0 : Int32)
set_option maxRecDepth 100000 in
set_option maxHeartbeats 4000000 in
theorem k_Codes_1 {O : zO} {B : zM} (hO : zTabOk O) {a0 : Nat} (h0 : a0 = z_s B + 10) : zEv (fun n => F_Codes_init O n a0 (sh B d_16)) ((), sh B d_30) := by
  subst h0
  unfold F_Codes_init f_Codes_init_0
  refine x_k (p := 10) rfl (by decide) (by decide +kernel) ?_
  refine x_a (D' := d_17) (m' := 256) rfl (by decide) ?_
  refine x_k (p := 10) rfl (by decide) (by decide +kernel) ?_
  refine x_p (D' := d_18) (p := 10) (f' := 0) (v' := 11) rfl rfl (by decide) rfl (sh_s B d_16 (by decide +kernel)) (by decide) ?_
  refine x_a (D' := d_19) (m' := 256) rfl (by decide) ?_
  refine x_k (p := 10) rfl (by decide) (by decide +kernel) ?_
  refine x_p (D' := d_20) (p := 10) (f' := 1) (v' := 12) rfl rfl (by decide) rfl (sh_s B d_18 (by decide +kernel)) (by decide) ?_
  refine x_a (D' := d_21) (m' := 2048) rfl (by decide) ?_
  refine x_k (p := 10) rfl (by decide) (by decide +kernel) ?_
  refine x_p (D' := d_22) (p := 10) (f' := 2) (v' := 13) rfl rfl (by decide) rfl (sh_s B d_20 (by decide +kernel)) (by decide) ?_
  refine x_a (D' := d_23) (m' := 0) rfl rfl ?_
  refine x_b (D' := d_24) (k_Sh (p := 14) (g := 6) (l := 11) (n1 := 12) (n2 := 64) rfl (sh_s B d_22 (by decide +kernel)) (by decide) (by decide +kernel) (by decide +kernel) rfl rfl (by decide) (by decide)) ?_
  dsimp only
  refine x_k (p := 10) rfl (by decide) (by decide +kernel) ?_
  refine x_p (D' := d_25) (p := 10) (f' := 3) (v' := 14) rfl rfl (by decide) rfl (sh_s B d_22 (by decide +kernel)) (by decide) ?_
  refine x_a (D' := d_26) (m' := 0) rfl rfl ?_
  refine x_b (D' := d_27) (k_Str (p := 20) rfl (sh_s B d_25 (by decide +kernel)) (by decide) (by decide +kernel)) ?_
  dsimp only
  refine x_k (p := 10) rfl (by decide) (by decide +kernel) ?_
  refine x_p (D' := d_28) (p := 10) (f' := 4) (v' := 20) rfl rfl (by decide) rfl (sh_s B d_25 (by decide +kernel)) (by decide) ?_
  refine x_i (D' := d_29) (p := 10) (f' := 5) rfl rfl (by decide) rfl rfl ?_
  refine x_i (D' := d_30) (p := 10) (f' := 6) rfl rfl (by decide) rfl rfl ?_
  exact zEv.some _
def d_31 : zM := w_p d_30 6 4 10
def d_32 : zM := w_a d_31 2 0
def d_33 : zM := w_a d_32 100 256
def d_34 : zM := w_p d_33 21 0 22
def d_35 : zM := w_a d_34 100 256
def d_36 : zM := w_p d_35 21 1 23
def d_37 : zM := w_a d_36 100 2048
def d_38 : zM := w_p d_37 21 2 24
def d_39 : zM := w_a d_38 11 0
def d_40 : zM := kSh d_39 25 6 11 12 64
def d_41 : zM := w_p d_40 21 3 25
def d_42 : zM := w_a d_41 12 0
def d_43 : zM := kStr d_42 31
def d_44 : zM := w_p d_43 21 4 31
def d_45 : zM := w_i d_44 21 5 (0 : Int32)
def d_46 : zM := w_i d_45 21 6 (0 : Int32)
set_option maxRecDepth 100000 in
set_option maxHeartbeats 4000000 in
theorem k_Codes_2 {O : zO} {B : zM} (hO : zTabOk O) {a0 : Nat} (h0 : a0 = z_s B + 21) : zEv (fun n => F_Codes_init O n a0 (sh B d_32)) ((), sh B d_46) := by
  subst h0
  unfold F_Codes_init f_Codes_init_0
  refine x_k (p := 21) rfl (by decide) (by decide +kernel) ?_
  refine x_a (D' := d_33) (m' := 256) rfl (by decide) ?_
  refine x_k (p := 21) rfl (by decide) (by decide +kernel) ?_
  refine x_p (D' := d_34) (p := 21) (f' := 0) (v' := 22) rfl rfl (by decide) rfl (sh_s B d_32 (by decide +kernel)) (by decide) ?_
  refine x_a (D' := d_35) (m' := 256) rfl (by decide) ?_
  refine x_k (p := 21) rfl (by decide) (by decide +kernel) ?_
  refine x_p (D' := d_36) (p := 21) (f' := 1) (v' := 23) rfl rfl (by decide) rfl (sh_s B d_34 (by decide +kernel)) (by decide) ?_
  refine x_a (D' := d_37) (m' := 2048) rfl (by decide) ?_
  refine x_k (p := 21) rfl (by decide) (by decide +kernel) ?_
  refine x_p (D' := d_38) (p := 21) (f' := 2) (v' := 24) rfl rfl (by decide) rfl (sh_s B d_36 (by decide +kernel)) (by decide) ?_
  refine x_a (D' := d_39) (m' := 0) rfl rfl ?_
  refine x_b (D' := d_40) (k_Sh (p := 25) (g := 6) (l := 11) (n1 := 12) (n2 := 64) rfl (sh_s B d_38 (by decide +kernel)) (by decide) (by decide +kernel) (by decide +kernel) rfl rfl (by decide) (by decide)) ?_
  dsimp only
  refine x_k (p := 21) rfl (by decide) (by decide +kernel) ?_
  refine x_p (D' := d_41) (p := 21) (f' := 3) (v' := 25) rfl rfl (by decide) rfl (sh_s B d_38 (by decide +kernel)) (by decide) ?_
  refine x_a (D' := d_42) (m' := 0) rfl rfl ?_
  refine x_b (D' := d_43) (k_Str (p := 31) rfl (sh_s B d_41 (by decide +kernel)) (by decide) (by decide +kernel)) ?_
  dsimp only
  refine x_k (p := 21) rfl (by decide) (by decide +kernel) ?_
  refine x_p (D' := d_44) (p := 21) (f' := 4) (v' := 31) rfl rfl (by decide) rfl (sh_s B d_41 (by decide +kernel)) (by decide) ?_
  refine x_i (D' := d_45) (p := 21) (f' := 5) rfl rfl (by decide) rfl rfl ?_
  refine x_i (D' := d_46) (p := 21) (f' := 6) rfl rfl (by decide) rfl rfl ?_
  exact zEv.some _
def d_47 : zM := w_p d_46 6 6 21
def d_48 : zM := w_a d_47 104 3
def d_49 : zM := w_p d_48 6 5 32
def d_50 : zM := w_a d_49 104 3
def d_51 : zM := w_p d_50 6 7 33
def d_52 : zM := w_a d_51 11 0
def d_53 : zM := kSh d_52 34 9 35 36 512
def d_54 : zM := w_p d_53 32 0 34
def d_55 : zM := w_a d_54 11 0
def d_56 : zM := kSh d_55 40 9 35 36 512
def d_57 : zM := w_p d_56 33 0 40
def d_58 : zM := w_a d_57 11 0
def d_59 : zM := kSh d_58 46 8 31 32 256
def d_60 : zM := w_p d_59 32 1 46
def d_61 : zM := w_a d_60 11 0
def d_62 : zM := kSh d_61 52 8 31 32 256
def d_63 : zM := w_p d_62 33 1 52
def d_64 : zM := w_a d_63 11 0
def d_65 : zM := kSh d_64 58 9 52 53 512
def d_66 : zM := w_p d_65 32 2 58
def d_67 : zM := w_a d_66 11 0
def d_68 : zM := kSh d_67 64 9 52 53 512
def d_69 : zM := w_p d_68 33 2 64
set_option maxRecDepth 100000 in
set_option maxHeartbeats 4000000 in
theorem k_Dict_1 {O : zO} {B : zM} (hO : zTabOk O) {a0 : Nat} (h0 : a0 = z_s B + 6) : zEv (fun n => F_Dict_init O n a0 (sh B d_7)) ((), sh B d_69) := by
  subst h0
  unfold F_Dict_init f_Dict_init_0
  refine x_k (p := 6) rfl (by decide) (by decide +kernel) ?_
  refine x_a (D' := d_8) (m' := 0) rfl rfl ?_
  refine x_b (D' := d_9) (k_Row (p := 7) (N := 12000) rfl (sh_s B d_7 (by decide +kernel)) (by decide) (by decide +kernel) (by decide +kernel) (by decide) (by decide)) ?_
  dsimp only
  refine x_k (p := 6) rfl (by decide) (by decide +kernel) ?_
  refine x_p (D' := d_10) (p := 6) (f' := 0) (v' := 7) rfl rfl (by decide) rfl (sh_s B d_7 (by decide +kernel)) (by decide) ?_
  refine x_a (D' := d_11) (m' := 0) rfl rfl ?_
  refine x_b (D' := d_12) (k_Lat (p := 9) rfl (sh_s B d_10 (by decide +kernel)) (by decide) (by decide +kernel)) ?_
  dsimp only
  refine x_k (p := 6) rfl (by decide) (by decide +kernel) ?_
  refine x_p (D' := d_13) (p := 6) (f' := 1) (v' := 9) rfl rfl (by decide) rfl (sh_s B d_10 (by decide +kernel)) (by decide) ?_
  refine x_j (D' := d_14) (p := 6) rfl rfl (by decide) ?_
  refine x_i (D' := d_15) (p := 6) (f' := 3) rfl rfl (by decide) rfl rfl ?_
  refine x_a (D' := d_16) (m' := 0) rfl rfl ?_
  refine x_b (D' := d_30) (k_Codes_1 hO (sh_s B d_15 (by decide +kernel))) ?_
  dsimp only
  refine x_k (p := 6) rfl (by decide) (by decide +kernel) ?_
  refine x_p (D' := d_31) (p := 6) (f' := 4) (v' := 10) rfl rfl (by decide) rfl (sh_s B d_15 (by decide +kernel)) (by decide) ?_
  refine x_a (D' := d_32) (m' := 0) rfl rfl ?_
  refine x_b (D' := d_46) (k_Codes_2 hO (sh_s B d_31 (by decide +kernel))) ?_
  dsimp only
  refine x_k (p := 6) rfl (by decide) (by decide +kernel) ?_
  refine x_p (D' := d_47) (p := 6) (f' := 6) (v' := 21) rfl rfl (by decide) rfl (sh_s B d_31 (by decide +kernel)) (by decide) ?_
  refine x_a (D' := d_48) (m' := 3) rfl (by decide) ?_
  refine x_k (p := 6) rfl (by decide) (by decide +kernel) ?_
  refine x_p (D' := d_49) (p := 6) (f' := 5) (v' := 32) rfl rfl (by decide) rfl (sh_s B d_47 (by decide +kernel)) (by decide) ?_
  refine x_a (D' := d_50) (m' := 3) rfl (by decide) ?_
  refine x_k (p := 6) rfl (by decide) (by decide +kernel) ?_
  refine x_p (D' := d_51) (p := 6) (f' := 7) (v' := 33) rfl rfl (by decide) rfl (sh_s B d_49 (by decide +kernel)) (by decide) ?_
  refine x_a (D' := d_52) (m' := 0) rfl rfl ?_
  refine zEv.ip (t_b hO (by decide)) ?_
  refine zEv.ip (t_z hO (by decide) (by decide)) ?_
  refine zEv.ip (t_b hO (by decide)) ?_
  refine zEv.ip (t_z hO (by decide) (by decide)) ?_
  refine x_b (D' := d_53) (k_Sh (p := 34) (g := 9) (l := 35) (n1 := 36) (n2 := 512) rfl (sh_s B d_51 (by decide +kernel)) (by decide) (by decide +kernel) (by decide +kernel) (t_v hO (j' := 0) (by decide) (by decide) (by decide) (by decide)) (t_v hO (j' := 0) (by decide) (by decide) (by decide) (by decide)) (by decide) (by decide)) ?_
  dsimp only
  refine x_k (p := 32) (sh_q B d_51 (p := 6) (f' := 5) (v := 32) rfl (by decide) rfl (by decide +kernel) (by decide)) (by decide) (by decide +kernel) ?_
  refine x_z (p := 32) (sh_q B d_51 (p := 6) (f' := 5) (v := 32) rfl (by decide) rfl (by decide +kernel) (by decide)) (by decide) (by decide +kernel) ?_
  refine x_k (p := 34) (sh_s B d_51 (by decide +kernel)) (by decide) (by decide +kernel) ?_
  refine x_p (D' := d_54) (p := 32) (f' := 0) (v' := 34) rfl (sh_q B d_51 (p := 6) (f' := 5) (v := 32) rfl (by decide) rfl (by decide +kernel) (by decide)) (by decide) (by decide) (sh_s B d_51 (by decide +kernel)) (by decide) ?_
  refine x_k (p := 6) rfl (by decide) (by decide +kernel) ?_
  refine x_a (D' := d_55) (m' := 0) rfl rfl ?_
  refine zEv.ip (t_b hO (by decide)) ?_
  refine zEv.ip (t_z hO (by decide) (by decide)) ?_
  refine zEv.ip (t_b hO (by decide)) ?_
  refine zEv.ip (t_z hO (by decide) (by decide)) ?_
  refine x_b (D' := d_56) (k_Sh (p := 40) (g := 9) (l := 35) (n1 := 36) (n2 := 512) rfl (sh_s B d_54 (by decide +kernel)) (by decide) (by decide +kernel) (by decide +kernel) (t_v hO (j' := 0) (by decide) (by decide) (by decide) (by decide)) (t_v hO (j' := 0) (by decide) (by decide) (by decide) (by decide)) (by decide) (by decide)) ?_
  dsimp only
  refine x_k (p := 33) (sh_q B d_54 (p := 6) (f' := 7) (v := 33) rfl (by decide) rfl (by decide +kernel) (by decide)) (by decide) (by decide +kernel) ?_
  refine x_z (p := 33) (sh_q B d_54 (p := 6) (f' := 7) (v := 33) rfl (by decide) rfl (by decide +kernel) (by decide)) (by decide) (by decide +kernel) ?_
  refine x_k (p := 40) (sh_s B d_54 (by decide +kernel)) (by decide) (by decide +kernel) ?_
  refine x_p (D' := d_57) (p := 33) (f' := 0) (v' := 40) rfl (sh_q B d_54 (p := 6) (f' := 7) (v := 33) rfl (by decide) rfl (by decide +kernel) (by decide)) (by decide) (by decide) (sh_s B d_54 (by decide +kernel)) (by decide) ?_
  refine x_k (p := 6) rfl (by decide) (by decide +kernel) ?_
  refine x_a (D' := d_58) (m' := 0) rfl rfl ?_
  refine zEv.ip (t_b hO (by decide)) ?_
  refine zEv.ip (t_z hO (by decide) (by decide)) ?_
  refine zEv.ip (t_b hO (by decide)) ?_
  refine zEv.ip (t_z hO (by decide) (by decide)) ?_
  refine x_b (D' := d_59) (k_Sh (p := 46) (g := 8) (l := 31) (n1 := 32) (n2 := 256) rfl (sh_s B d_57 (by decide +kernel)) (by decide) (by decide +kernel) (by decide +kernel) (t_v hO (j' := 1) (by decide) (by decide) (by decide) (by decide)) (t_v hO (j' := 1) (by decide) (by decide) (by decide) (by decide)) (by decide) (by decide)) ?_
  dsimp only
  refine x_k (p := 32) (sh_q B d_57 (p := 6) (f' := 5) (v := 32) rfl (by decide) rfl (by decide +kernel) (by decide)) (by decide) (by decide +kernel) ?_
  refine x_z (p := 32) (sh_q B d_57 (p := 6) (f' := 5) (v := 32) rfl (by decide) rfl (by decide +kernel) (by decide)) (by decide) (by decide +kernel) ?_
  refine x_k (p := 46) (sh_s B d_57 (by decide +kernel)) (by decide) (by decide +kernel) ?_
  refine x_p (D' := d_60) (p := 32) (f' := 1) (v' := 46) rfl (sh_q B d_57 (p := 6) (f' := 5) (v := 32) rfl (by decide) rfl (by decide +kernel) (by decide)) (by decide) (by decide) (sh_s B d_57 (by decide +kernel)) (by decide) ?_
  refine x_k (p := 6) rfl (by decide) (by decide +kernel) ?_
  refine x_a (D' := d_61) (m' := 0) rfl rfl ?_
  refine zEv.ip (t_b hO (by decide)) ?_
  refine zEv.ip (t_z hO (by decide) (by decide)) ?_
  refine zEv.ip (t_b hO (by decide)) ?_
  refine zEv.ip (t_z hO (by decide) (by decide)) ?_
  refine x_b (D' := d_62) (k_Sh (p := 52) (g := 8) (l := 31) (n1 := 32) (n2 := 256) rfl (sh_s B d_60 (by decide +kernel)) (by decide) (by decide +kernel) (by decide +kernel) (t_v hO (j' := 1) (by decide) (by decide) (by decide) (by decide)) (t_v hO (j' := 1) (by decide) (by decide) (by decide) (by decide)) (by decide) (by decide)) ?_
  dsimp only
  refine x_k (p := 33) (sh_q B d_60 (p := 6) (f' := 7) (v := 33) rfl (by decide) rfl (by decide +kernel) (by decide)) (by decide) (by decide +kernel) ?_
  refine x_z (p := 33) (sh_q B d_60 (p := 6) (f' := 7) (v := 33) rfl (by decide) rfl (by decide +kernel) (by decide)) (by decide) (by decide +kernel) ?_
  refine x_k (p := 52) (sh_s B d_60 (by decide +kernel)) (by decide) (by decide +kernel) ?_
  refine x_p (D' := d_63) (p := 33) (f' := 1) (v' := 52) rfl (sh_q B d_60 (p := 6) (f' := 7) (v := 33) rfl (by decide) rfl (by decide +kernel) (by decide)) (by decide) (by decide) (sh_s B d_60 (by decide +kernel)) (by decide) ?_
  refine x_k (p := 6) rfl (by decide) (by decide +kernel) ?_
  refine x_a (D' := d_64) (m' := 0) rfl rfl ?_
  refine zEv.ip (t_b hO (by decide)) ?_
  refine zEv.ip (t_z hO (by decide) (by decide)) ?_
  refine zEv.ip (t_b hO (by decide)) ?_
  refine zEv.ip (t_z hO (by decide) (by decide)) ?_
  refine x_b (D' := d_65) (k_Sh (p := 58) (g := 9) (l := 52) (n1 := 53) (n2 := 512) rfl (sh_s B d_63 (by decide +kernel)) (by decide) (by decide +kernel) (by decide +kernel) (t_v hO (j' := 2) (by decide) (by decide) (by decide) (by decide)) (t_v hO (j' := 2) (by decide) (by decide) (by decide) (by decide)) (by decide) (by decide)) ?_
  dsimp only
  refine x_k (p := 32) (sh_q B d_63 (p := 6) (f' := 5) (v := 32) rfl (by decide) rfl (by decide +kernel) (by decide)) (by decide) (by decide +kernel) ?_
  refine x_z (p := 32) (sh_q B d_63 (p := 6) (f' := 5) (v := 32) rfl (by decide) rfl (by decide +kernel) (by decide)) (by decide) (by decide +kernel) ?_
  refine x_k (p := 58) (sh_s B d_63 (by decide +kernel)) (by decide) (by decide +kernel) ?_
  refine x_p (D' := d_66) (p := 32) (f' := 2) (v' := 58) rfl (sh_q B d_63 (p := 6) (f' := 5) (v := 32) rfl (by decide) rfl (by decide +kernel) (by decide)) (by decide) (by decide) (sh_s B d_63 (by decide +kernel)) (by decide) ?_
  refine x_k (p := 6) rfl (by decide) (by decide +kernel) ?_
  refine x_a (D' := d_67) (m' := 0) rfl rfl ?_
  refine zEv.ip (t_b hO (by decide)) ?_
  refine zEv.ip (t_z hO (by decide) (by decide)) ?_
  refine zEv.ip (t_b hO (by decide)) ?_
  refine zEv.ip (t_z hO (by decide) (by decide)) ?_
  refine x_b (D' := d_68) (k_Sh (p := 64) (g := 9) (l := 52) (n1 := 53) (n2 := 512) rfl (sh_s B d_66 (by decide +kernel)) (by decide) (by decide +kernel) (by decide +kernel) (t_v hO (j' := 2) (by decide) (by decide) (by decide) (by decide)) (t_v hO (j' := 2) (by decide) (by decide) (by decide) (by decide)) (by decide) (by decide)) ?_
  dsimp only
  refine x_k (p := 33) (sh_q B d_66 (p := 6) (f' := 7) (v := 33) rfl (by decide) rfl (by decide +kernel) (by decide)) (by decide) (by decide +kernel) ?_
  refine x_z (p := 33) (sh_q B d_66 (p := 6) (f' := 7) (v := 33) rfl (by decide) rfl (by decide +kernel) (by decide)) (by decide) (by decide +kernel) ?_
  refine x_k (p := 64) (sh_s B d_66 (by decide +kernel)) (by decide) (by decide +kernel) ?_
  refine x_p (D' := d_69) (p := 33) (f' := 2) (v' := 64) rfl (sh_q B d_66 (p := 6) (f' := 7) (v := 33) rfl (by decide) rfl (by decide +kernel) (by decide)) (by decide) (by decide) (sh_s B d_66 (by decide +kernel)) (by decide) ?_
  exact zEv.some _
def d_70 : zM := w_p d_69 1 2 6
def d_71 : zM := w_a d_70 8 0
def d_72 : zM := w_p d_71 1 3 70
def d_73 : zM := w_a d_72 3 0
def d_74 : zM := w_a d_73 9 0
def d_75 : zM := kRow d_74 72 32768
def d_76 : zM := w_p d_75 71 0 72
def d_77 : zM := w_p d_76 71 1 7
def d_78 : zM := w_i d_77 71 2 (0 : Int32)
def d_79 : zM := w_i d_78 71 3 (0 : Int32)
def d_80 : zM := w_i d_79 71 4 (0 : Int32)
def d_81 : zM := w_j d_80 71 5 (0 : Int64)
set_option maxRecDepth 100000 in
set_option maxHeartbeats 4000000 in
theorem k_Content_1 {O : zO} {B : zM} (hO : zTabOk O) {a0 a1 : Nat} (h0 : a0 = z_s B + 71) (h1 : a1 = z_s B + 7) : zEv (fun n => F_Content_init O n a0 a1 (sh B d_73)) ((), sh B d_81) := by
  subst h0 h1
  unfold F_Content_init f_Content_init_0
  refine x_k (p := 71) rfl (by decide) (by decide +kernel) ?_
  refine x_a (D' := d_74) (m' := 0) rfl rfl ?_
  refine x_b (D' := d_75) (k_Row (p := 72) (N := 32768) rfl (sh_s B d_73 (by decide +kernel)) (by decide) (by decide +kernel) (by decide +kernel) (by decide) (by decide)) ?_
  dsimp only
  refine x_k (p := 71) rfl (by decide) (by decide +kernel) ?_
  refine x_p (D' := d_76) (p := 71) (f' := 0) (v' := 72) rfl rfl (by decide) rfl (sh_s B d_73 (by decide +kernel)) (by decide) ?_
  refine x_p (D' := d_77) (p := 71) (f' := 1) (v' := 7) rfl rfl (by decide) rfl rfl (by decide) ?_
  refine x_i (D' := d_78) (p := 71) (f' := 2) rfl rfl (by decide) rfl rfl ?_
  refine x_i (D' := d_79) (p := 71) (f' := 3) rfl rfl (by decide) rfl rfl ?_
  refine x_i (D' := d_80) (p := 71) (f' := 4) rfl rfl (by decide) rfl rfl ?_
  refine x_j (D' := d_81) (p := 71) rfl rfl (by decide) ?_
  exact zEv.some _
def d_82 : zM := w_p d_81 1 4 71
def d_83 : zM := w_a d_82 5 0
def d_84 : zM := w_p d_83 74 0 2
def d_85 : zM := w_p d_84 74 1 6
def d_86 : zM := w_p d_85 74 2 70
def d_87 : zM := w_p d_86 74 3 71
def d_88 : zM := w_a d_87 7 0
def d_89 : zM := w_p d_88 75 0 2
def d_90 : zM := w_p d_89 75 1 70
def d_91 : zM := w_a d_90 12 0
def d_92 : zM := kStr d_91 76
def d_93 : zM := w_p d_92 75 2 76
def d_94 : zM := w_a d_93 2 0
def d_95 : zM := w_a d_94 100 256
def d_96 : zM := w_p d_95 77 0 78
def d_97 : zM := w_a d_96 100 256
def d_98 : zM := w_p d_97 77 1 79
def d_99 : zM := w_a d_98 100 2048
def d_100 : zM := w_p d_99 77 2 80
def d_101 : zM := w_a d_100 11 0
def d_102 : zM := kSh d_101 81 6 11 12 64
def d_103 : zM := w_p d_102 77 3 81
def d_104 : zM := w_a d_103 12 0
def d_105 : zM := kStr d_104 87
def d_106 : zM := w_p d_105 77 4 87
def d_107 : zM := w_i d_106 77 5 (0 : Int32)
def d_108 : zM := w_i d_107 77 6 (0 : Int32)
set_option maxRecDepth 100000 in
set_option maxHeartbeats 4000000 in
theorem k_Codes_3 {O : zO} {B : zM} (hO : zTabOk O) {a0 : Nat} (h0 : a0 = z_s B + 77) : zEv (fun n => F_Codes_init O n a0 (sh B d_94)) ((), sh B d_108) := by
  subst h0
  unfold F_Codes_init f_Codes_init_0
  refine x_k (p := 77) rfl (by decide) (by decide +kernel) ?_
  refine x_a (D' := d_95) (m' := 256) rfl (by decide) ?_
  refine x_k (p := 77) rfl (by decide) (by decide +kernel) ?_
  refine x_p (D' := d_96) (p := 77) (f' := 0) (v' := 78) rfl rfl (by decide) rfl (sh_s B d_94 (by decide +kernel)) (by decide) ?_
  refine x_a (D' := d_97) (m' := 256) rfl (by decide) ?_
  refine x_k (p := 77) rfl (by decide) (by decide +kernel) ?_
  refine x_p (D' := d_98) (p := 77) (f' := 1) (v' := 79) rfl rfl (by decide) rfl (sh_s B d_96 (by decide +kernel)) (by decide) ?_
  refine x_a (D' := d_99) (m' := 2048) rfl (by decide) ?_
  refine x_k (p := 77) rfl (by decide) (by decide +kernel) ?_
  refine x_p (D' := d_100) (p := 77) (f' := 2) (v' := 80) rfl rfl (by decide) rfl (sh_s B d_98 (by decide +kernel)) (by decide) ?_
  refine x_a (D' := d_101) (m' := 0) rfl rfl ?_
  refine x_b (D' := d_102) (k_Sh (p := 81) (g := 6) (l := 11) (n1 := 12) (n2 := 64) rfl (sh_s B d_100 (by decide +kernel)) (by decide) (by decide +kernel) (by decide +kernel) rfl rfl (by decide) (by decide)) ?_
  dsimp only
  refine x_k (p := 77) rfl (by decide) (by decide +kernel) ?_
  refine x_p (D' := d_103) (p := 77) (f' := 3) (v' := 81) rfl rfl (by decide) rfl (sh_s B d_100 (by decide +kernel)) (by decide) ?_
  refine x_a (D' := d_104) (m' := 0) rfl rfl ?_
  refine x_b (D' := d_105) (k_Str (p := 87) rfl (sh_s B d_103 (by decide +kernel)) (by decide) (by decide +kernel)) ?_
  dsimp only
  refine x_k (p := 77) rfl (by decide) (by decide +kernel) ?_
  refine x_p (D' := d_106) (p := 77) (f' := 4) (v' := 87) rfl rfl (by decide) rfl (sh_s B d_103 (by decide +kernel)) (by decide) ?_
  refine x_i (D' := d_107) (p := 77) (f' := 5) rfl rfl (by decide) rfl rfl ?_
  refine x_i (D' := d_108) (p := 77) (f' := 6) rfl rfl (by decide) rfl rfl ?_
  exact zEv.some _
def d_109 : zM := w_p d_108 75 3 77
def d_110 : zM := w_a d_109 9 0
def d_111 : zM := kRow d_110 88 32768
def d_112 : zM := w_p d_111 75 4 88
def d_113 : zM := w_p d_112 75 5 77
def d_114 : zM := w_i d_113 75 6 (0 : Int32)
def d_115 : zM := w_i d_114 75 7 (0 : Int32)
def d_116 : zM := w_i d_115 75 8 (0 : Int32)
def d_117 : zM := w_i d_116 75 9 (0 : Int32)
def d_118 : zM := w_i d_117 75 10 (0 : Int32)
def d_119 : zM := w_i d_118 75 11 (0 : Int32)
def d_120 : zM := w_i d_119 75 12 (0 : Int32)
set_option maxRecDepth 100000 in
set_option maxHeartbeats 4000000 in
theorem k_Lit_1 {O : zO} {B : zM} (hO : zTabOk O) {a0 a1 a2 : Nat} (h0 : a0 = z_s B + 75) (h1 : a1 = z_s B + 2) (h2 : a2 = z_s B + 70) : zEv (fun n => F_Lit_init O n a0 a1 a2 (sh B d_88)) ((), sh B d_120) := by
  subst h0 h1 h2
  unfold F_Lit_init f_Lit_init_0
  refine x_k (p := 75) rfl (by decide) (by decide +kernel) ?_
  refine x_p (D' := d_89) (p := 75) (f' := 0) (v' := 2) rfl rfl (by decide) rfl rfl (by decide) ?_
  refine x_p (D' := d_90) (p := 75) (f' := 1) (v' := 70) rfl rfl (by decide) rfl rfl (by decide) ?_
  refine x_a (D' := d_91) (m' := 0) rfl rfl ?_
  refine x_b (D' := d_92) (k_Str (p := 76) rfl (sh_s B d_90 (by decide +kernel)) (by decide) (by decide +kernel)) ?_
  dsimp only
  refine x_k (p := 75) rfl (by decide) (by decide +kernel) ?_
  refine x_p (D' := d_93) (p := 75) (f' := 2) (v' := 76) rfl rfl (by decide) rfl (sh_s B d_90 (by decide +kernel)) (by decide) ?_
  refine x_a (D' := d_94) (m' := 0) rfl rfl ?_
  refine x_b (D' := d_108) (k_Codes_3 hO (sh_s B d_93 (by decide +kernel))) ?_
  dsimp only
  refine x_k (p := 75) rfl (by decide) (by decide +kernel) ?_
  refine x_p (D' := d_109) (p := 75) (f' := 3) (v' := 77) rfl rfl (by decide) rfl (sh_s B d_93 (by decide +kernel)) (by decide) ?_
  refine x_a (D' := d_110) (m' := 0) rfl rfl ?_
  refine x_b (D' := d_111) (k_Row (p := 88) (N := 32768) rfl (sh_s B d_109 (by decide +kernel)) (by decide) (by decide +kernel) (by decide +kernel) (by decide) (by decide)) ?_
  dsimp only
  refine x_k (p := 75) rfl (by decide) (by decide +kernel) ?_
  refine x_p (D' := d_112) (p := 75) (f' := 4) (v' := 88) rfl rfl (by decide) rfl (sh_s B d_109 (by decide +kernel)) (by decide) ?_
  refine x_p (D' := d_113) (p := 75) (f' := 5) (v' := 77) rfl rfl (by decide) rfl (sh_q B d_112 (p := 75) (f' := 3) (v := 77) rfl (by decide) rfl (by decide +kernel) (by decide)) (by decide) ?_
  refine x_i (D' := d_114) (p := 75) (f' := 6) rfl rfl (by decide) rfl rfl ?_
  refine x_i (D' := d_115) (p := 75) (f' := 7) rfl rfl (by decide) rfl rfl ?_
  refine x_i (D' := d_116) (p := 75) (f' := 8) rfl rfl (by decide) rfl rfl ?_
  refine x_i (D' := d_117) (p := 75) (f' := 9) rfl rfl (by decide) rfl rfl ?_
  refine x_i (D' := d_118) (p := 75) (f' := 10) rfl rfl (by decide) rfl rfl ?_
  refine x_i (D' := d_119) (p := 75) (f' := 11) rfl rfl (by decide) rfl rfl ?_
  refine x_i (D' := d_120) (p := 75) (f' := 12) rfl rfl (by decide) rfl rfl ?_
  exact zEv.some _
def d_121 : zM := w_p d_120 74 4 75
def d_122 : zM := w_a d_121 10 0
def d_123 : zM := w_p d_122 90 0 2
def d_124 : zM := w_p d_123 90 1 70
def d_125 : zM := w_p d_124 90 2 71
def d_126 : zM := w_p d_125 90 3 75
def d_127 : zM := w_a d_126 12 0
def d_128 : zM := kStr d_127 91
def d_129 : zM := w_p d_128 90 4 91
def d_130 : zM := w_a d_129 6 0
def d_131 : zM := kLat d_130 92
def d_132 : zM := w_p d_131 90 5 92
def d_133 : zM := w_a d_132 104 3
def d_134 : zM := w_p d_133 90 6 93
def d_135 : zM := w_a d_134 104 3
def d_136 : zM := w_p d_135 90 7 94
def d_137 : zM := w_a d_136 104 3
def d_138 : zM := w_p d_137 90 8 95
def d_139 : zM := w_a d_138 102 3
def d_140 : zM := w_p d_139 90 9 96
def d_141 : zM := w_a d_140 100 3
def d_142 : zM := w_p d_141 90 10 97
def d_143 : zM := w_a d_142 11 0
def d_144 : zM := kSh d_143 98 6 35 36 64
def d_145 : zM := w_p d_144 93 0 98
def d_146 : zM := w_a d_145 11 0
def d_147 : zM := kSh d_146 104 9 35 36 512
def d_148 : zM := w_p d_147 94 0 104
def d_149 : zM := w_p d_148 95 0 98
def d_150 : zM := w_i d_149 96 0 (0 : Int32)
def d_151 : zM := w_a d_150 11 0
def d_152 : zM := kSh d_151 110 5 31 32 32
def d_153 : zM := w_p d_152 93 1 110
def d_154 : zM := w_a d_153 11 0
def d_155 : zM := kSh d_154 116 8 31 32 256
def d_156 : zM := w_p d_155 94 1 116
def d_157 : zM := w_p d_156 95 1 110
def d_158 : zM := w_i d_157 96 1 (0 : Int32)
def d_159 : zM := w_a d_158 11 0
def d_160 : zM := kSh d_159 122 6 52 53 64
def d_161 : zM := w_p d_160 93 2 122
def d_162 : zM := w_a d_161 11 0
def d_163 : zM := kSh d_162 128 9 52 53 512
def d_164 : zM := w_p d_163 94 2 128
def d_165 : zM := w_p d_164 95 2 122
def d_166 : zM := w_i d_165 96 2 (0 : Int32)
def f_Seq_tail (O : zO) (n : Nat) (l0 : Nat) (M : zM) : Option (Unit × zM) :=
  if z_k M (z_p M l0 6) = 104 then
  if zin (0 : Int32) (z_n M (z_p M l0 6)) = true then
  if O.2.1 (O.1 2) = true then
  if zin (0 : Int32) (O.2.2.1 (O.1 2)) = true then
  if z_k M (z_p M (z_p M l0 6) (0 : Int32).toNatClampNeg) = 11 then
  (F_Share_setPoints O n (z_p M (z_p M l0 6) (0 : Int32).toNatClampNeg) (O.2.2.2 (O.1 2) (0 : Int32).toNatClampNeg) (O.1 3) M).bind fun q251 =>
  if z_k q251.2 l0 = 10 then
  if z_k q251.2 (z_p q251.2 l0 6) = 104 then
  if zin (1 : Int32) (z_n q251.2 (z_p q251.2 l0 6)) = true then
  if O.2.1 (O.1 2) = true then
  if zin (1 : Int32) (O.2.2.1 (O.1 2)) = true then
  if z_k q251.2 (z_p q251.2 (z_p q251.2 l0 6) (1 : Int32).toNatClampNeg) = 11 then
  (F_Share_setPoints O n (z_p q251.2 (z_p q251.2 l0 6) (1 : Int32).toNatClampNeg) (O.2.2.2 (O.1 2) (1 : Int32).toNatClampNeg) (O.1 4) q251.2).bind fun q259 =>
  if z_k q259.2 l0 = 10 then
  if z_k q259.2 (z_p q259.2 l0 6) = 104 then
  if zin (2 : Int32) (z_n q259.2 (z_p q259.2 l0 6)) = true then
  if O.2.1 (O.1 2) = true then
  if zin (2 : Int32) (O.2.2.1 (O.1 2)) = true then
  if z_k q259.2 (z_p q259.2 (z_p q259.2 l0 6) (2 : Int32).toNatClampNeg) = 11 then
  (F_Share_setPoints O n (z_p q259.2 (z_p q259.2 l0 6) (2 : Int32).toNatClampNeg) (O.2.2.2 (O.1 2) (2 : Int32).toNatClampNeg) (O.1 5) q259.2).bind fun q267 =>
  some ((), q267.2)
  else none
  else none
  else none
  else none
  else none
  else none
  else none
  else none
  else none
  else none
  else none
  else none
  else none
  else none
  else none
  else none
  else none
def f_FR_tail (O : zO) (n : Nat) (l0 v : Nat) (q27 : Unit × zM) : Option (Unit × zM) :=
  if z_k q27.2 l0 = 5 then
  zlet (w_p q27.2 l0 5 v) fun M30 =>
  zlet (w_i M30 l0 6 (0 : Int32)) fun M33 =>
  zlet (w_i M33 l0 7 (0 : Int32)) fun M36 =>
  zlet (w_i M36 l0 8 (0 : Int32)) fun M39 =>
  zlet (w_i M39 l0 9 (0 : Int32)) fun M42 =>
  zlet (w_j M42 l0 10 (0 : Int64)) fun M45 =>
  zlet (w_i M45 l0 11 (0 : Int32)) fun M48 =>
  some ((), M48)
  else none
def f_SF_tail (O : zO) (n : Nat) (l0 v : Nat) (q53 : Unit × zM) : Option (Unit × zM) :=
  if z_k q53.2 l0 = 1 then
  zlet (w_p q53.2 l0 5 v) fun M56 =>
  some ((), M56)
  else none
set_option maxRecDepth 100000 in
set_option maxHeartbeats 4000000 in
theorem k_Seq {O : zO} {B : zM} {r : Unit × zM} (hO : zTabOk O) {a0 a1 a2 a3 a4 : Nat} (h0 : a0 = z_s B + 90) (h1 : a1 = z_s B + 2) (h2 : a2 = z_s B + 70) (h3 : a3 = z_s B + 71) (h4 : a4 = z_s B + 75) (w : zEv (fun n => f_Seq_tail O n (z_s B + 90) (sh B d_166)) r) : zEv (fun n => F_Seq_init O n a0 a1 a2 a3 a4 (sh B d_122)) r := by
  subst h0 h1 h2 h3 h4
  unfold F_Seq_init f_Seq_init_0
  refine x_k (p := 90) rfl (by decide) (by decide +kernel) ?_
  refine x_p (D' := d_123) (p := 90) (f' := 0) (v' := 2) rfl rfl (by decide) rfl rfl (by decide) ?_
  refine x_p (D' := d_124) (p := 90) (f' := 1) (v' := 70) rfl rfl (by decide) rfl rfl (by decide) ?_
  refine x_p (D' := d_125) (p := 90) (f' := 2) (v' := 71) rfl rfl (by decide) rfl rfl (by decide) ?_
  refine x_p (D' := d_126) (p := 90) (f' := 3) (v' := 75) rfl rfl (by decide) rfl rfl (by decide) ?_
  refine x_a (D' := d_127) (m' := 0) rfl rfl ?_
  refine x_b (D' := d_128) (k_Str (p := 91) rfl (sh_s B d_126 (by decide +kernel)) (by decide) (by decide +kernel)) ?_
  dsimp only
  refine x_k (p := 90) rfl (by decide) (by decide +kernel) ?_
  refine x_p (D' := d_129) (p := 90) (f' := 4) (v' := 91) rfl rfl (by decide) rfl (sh_s B d_126 (by decide +kernel)) (by decide) ?_
  refine x_a (D' := d_130) (m' := 0) rfl rfl ?_
  refine x_b (D' := d_131) (k_Lat (p := 92) rfl (sh_s B d_129 (by decide +kernel)) (by decide) (by decide +kernel)) ?_
  dsimp only
  refine x_k (p := 90) rfl (by decide) (by decide +kernel) ?_
  refine x_p (D' := d_132) (p := 90) (f' := 5) (v' := 92) rfl rfl (by decide) rfl (sh_s B d_129 (by decide +kernel)) (by decide) ?_
  refine x_a (D' := d_133) (m' := 3) rfl (by decide) ?_
  refine x_k (p := 90) rfl (by decide) (by decide +kernel) ?_
  refine x_p (D' := d_134) (p := 90) (f' := 6) (v' := 93) rfl rfl (by decide) rfl (sh_s B d_132 (by decide +kernel)) (by decide) ?_
  refine x_a (D' := d_135) (m' := 3) rfl (by decide) ?_
  refine x_k (p := 90) rfl (by decide) (by decide +kernel) ?_
  refine x_p (D' := d_136) (p := 90) (f' := 7) (v' := 94) rfl rfl (by decide) rfl (sh_s B d_134 (by decide +kernel)) (by decide) ?_
  refine x_a (D' := d_137) (m' := 3) rfl (by decide) ?_
  refine x_k (p := 90) rfl (by decide) (by decide +kernel) ?_
  refine x_p (D' := d_138) (p := 90) (f' := 8) (v' := 95) rfl rfl (by decide) rfl (sh_s B d_136 (by decide +kernel)) (by decide) ?_
  refine x_a (D' := d_139) (m' := 3) rfl (by decide) ?_
  refine x_k (p := 90) rfl (by decide) (by decide +kernel) ?_
  refine x_p (D' := d_140) (p := 90) (f' := 9) (v' := 96) rfl rfl (by decide) rfl (sh_s B d_138 (by decide +kernel)) (by decide) ?_
  refine x_a (D' := d_141) (m' := 3) rfl (by decide) ?_
  refine x_k (p := 90) rfl (by decide) (by decide +kernel) ?_
  refine x_p (D' := d_142) (p := 90) (f' := 10) (v' := 97) rfl rfl (by decide) rfl (sh_s B d_140 (by decide +kernel)) (by decide) ?_
  refine x_a (D' := d_143) (m' := 0) rfl rfl ?_
  refine zEv.ip (t_b hO (by decide)) ?_
  refine zEv.ip (t_z hO (by decide) (by decide)) ?_
  refine zEv.ip (t_b hO (by decide)) ?_
  refine zEv.ip (t_z hO (by decide) (by decide)) ?_
  refine x_b (D' := d_144) (k_Sh (p := 98) (g := 6) (l := 35) (n1 := 36) (n2 := 64) rfl (sh_s B d_142 (by decide +kernel)) (by decide) (by decide +kernel) (by decide +kernel) (t_v hO (j' := 0) (by decide) (by decide) (by decide) (by decide)) (t_v hO (j' := 0) (by decide) (by decide) (by decide) (by decide)) (by decide) (by decide)) ?_
  dsimp only
  refine x_k (p := 93) (sh_q B d_142 (p := 90) (f' := 6) (v := 93) rfl (by decide) rfl (by decide +kernel) (by decide)) (by decide) (by decide +kernel) ?_
  refine x_z (p := 93) (sh_q B d_142 (p := 90) (f' := 6) (v := 93) rfl (by decide) rfl (by decide +kernel) (by decide)) (by decide) (by decide +kernel) ?_
  refine x_k (p := 98) (sh_s B d_142 (by decide +kernel)) (by decide) (by decide +kernel) ?_
  refine x_p (D' := d_145) (p := 93) (f' := 0) (v' := 98) rfl (sh_q B d_142 (p := 90) (f' := 6) (v := 93) rfl (by decide) rfl (by decide +kernel) (by decide)) (by decide) (by decide) (sh_s B d_142 (by decide +kernel)) (by decide) ?_
  refine x_k (p := 90) rfl (by decide) (by decide +kernel) ?_
  refine x_a (D' := d_146) (m' := 0) rfl rfl ?_
  refine zEv.ip (t_b hO (by decide)) ?_
  refine zEv.ip (t_z hO (by decide) (by decide)) ?_
  refine zEv.ip (t_b hO (by decide)) ?_
  refine zEv.ip (t_z hO (by decide) (by decide)) ?_
  refine x_b (D' := d_147) (k_Sh (p := 104) (g := 9) (l := 35) (n1 := 36) (n2 := 512) rfl (sh_s B d_145 (by decide +kernel)) (by decide) (by decide +kernel) (by decide +kernel) (t_v hO (j' := 0) (by decide) (by decide) (by decide) (by decide)) (t_v hO (j' := 0) (by decide) (by decide) (by decide) (by decide)) (by decide) (by decide)) ?_
  dsimp only
  refine x_k (p := 94) (sh_q B d_145 (p := 90) (f' := 7) (v := 94) rfl (by decide) rfl (by decide +kernel) (by decide)) (by decide) (by decide +kernel) ?_
  refine x_z (p := 94) (sh_q B d_145 (p := 90) (f' := 7) (v := 94) rfl (by decide) rfl (by decide +kernel) (by decide)) (by decide) (by decide +kernel) ?_
  refine x_k (p := 104) (sh_s B d_145 (by decide +kernel)) (by decide) (by decide +kernel) ?_
  refine x_p (D' := d_148) (p := 94) (f' := 0) (v' := 104) rfl (sh_q B d_145 (p := 90) (f' := 7) (v := 94) rfl (by decide) rfl (by decide +kernel) (by decide)) (by decide) (by decide) (sh_s B d_145 (by decide +kernel)) (by decide) ?_
  refine x_k (p := 90) rfl (by decide) (by decide +kernel) ?_
  refine x_k (p := 93) (sh_q B d_148 (p := 90) (f' := 6) (v := 93) rfl (by decide) rfl (by decide +kernel) (by decide)) (by decide) (by decide +kernel) ?_
  refine x_z (p := 93) (sh_q B d_148 (p := 90) (f' := 6) (v := 93) rfl (by decide) rfl (by decide +kernel) (by decide)) (by decide) (by decide +kernel) ?_
  refine x_k (p := 95) (sh_q B d_148 (p := 90) (f' := 8) (v := 95) rfl (by decide) rfl (by decide +kernel) (by decide)) (by decide) (by decide +kernel) ?_
  refine x_z (p := 95) (sh_q B d_148 (p := 90) (f' := 8) (v := 95) rfl (by decide) rfl (by decide +kernel) (by decide)) (by decide) (by decide +kernel) ?_
  refine x_k (p := 98) (sh_q B d_148 (p := 93) (f' := 0) (v := 98) (sh_q B d_148 (p := 90) (f' := 6) (v := 93) rfl (by decide) rfl (by decide +kernel) (by decide)) (by decide) (by decide) (by decide +kernel) (by decide)) (by decide) (by decide +kernel) ?_
  refine x_p (D' := d_149) (p := 95) (f' := 0) (v' := 98) rfl (sh_q B d_148 (p := 90) (f' := 8) (v := 95) rfl (by decide) rfl (by decide +kernel) (by decide)) (by decide) (by decide) (sh_q B d_148 (p := 93) (f' := 0) (v := 98) (sh_q B d_148 (p := 90) (f' := 6) (v := 93) rfl (by decide) rfl (by decide +kernel) (by decide)) (by decide) (by decide) (by decide +kernel) (by decide)) (by decide) ?_
  refine x_k (p := 96) (sh_q B d_149 (p := 90) (f' := 9) (v := 96) rfl (by decide) rfl (by decide +kernel) (by decide)) (by decide) (by decide +kernel) ?_
  refine x_z (p := 96) (sh_q B d_149 (p := 90) (f' := 9) (v := 96) rfl (by decide) rfl (by decide +kernel) (by decide)) (by decide) (by decide +kernel) ?_
  refine x_i (D' := d_150) (p := 96) (f' := 0) rfl (sh_q B d_149 (p := 90) (f' := 9) (v := 96) rfl (by decide) rfl (by decide +kernel) (by decide)) (by decide) (by decide) rfl ?_
  refine x_a (D' := d_151) (m' := 0) rfl rfl ?_
  refine zEv.ip (t_b hO (by decide)) ?_
  refine zEv.ip (t_z hO (by decide) (by decide)) ?_
  refine zEv.ip (t_b hO (by decide)) ?_
  refine zEv.ip (t_z hO (by decide) (by decide)) ?_
  refine x_b (D' := d_152) (k_Sh (p := 110) (g := 5) (l := 31) (n1 := 32) (n2 := 32) rfl (sh_s B d_150 (by decide +kernel)) (by decide) (by decide +kernel) (by decide +kernel) (t_v hO (j' := 1) (by decide) (by decide) (by decide) (by decide)) (t_v hO (j' := 1) (by decide) (by decide) (by decide) (by decide)) (by decide) (by decide)) ?_
  dsimp only
  refine x_k (p := 93) (sh_q B d_150 (p := 90) (f' := 6) (v := 93) rfl (by decide) rfl (by decide +kernel) (by decide)) (by decide) (by decide +kernel) ?_
  refine x_z (p := 93) (sh_q B d_150 (p := 90) (f' := 6) (v := 93) rfl (by decide) rfl (by decide +kernel) (by decide)) (by decide) (by decide +kernel) ?_
  refine x_k (p := 110) (sh_s B d_150 (by decide +kernel)) (by decide) (by decide +kernel) ?_
  refine x_p (D' := d_153) (p := 93) (f' := 1) (v' := 110) rfl (sh_q B d_150 (p := 90) (f' := 6) (v := 93) rfl (by decide) rfl (by decide +kernel) (by decide)) (by decide) (by decide) (sh_s B d_150 (by decide +kernel)) (by decide) ?_
  refine x_k (p := 90) rfl (by decide) (by decide +kernel) ?_
  refine x_a (D' := d_154) (m' := 0) rfl rfl ?_
  refine zEv.ip (t_b hO (by decide)) ?_
  refine zEv.ip (t_z hO (by decide) (by decide)) ?_
  refine zEv.ip (t_b hO (by decide)) ?_
  refine zEv.ip (t_z hO (by decide) (by decide)) ?_
  refine x_b (D' := d_155) (k_Sh (p := 116) (g := 8) (l := 31) (n1 := 32) (n2 := 256) rfl (sh_s B d_153 (by decide +kernel)) (by decide) (by decide +kernel) (by decide +kernel) (t_v hO (j' := 1) (by decide) (by decide) (by decide) (by decide)) (t_v hO (j' := 1) (by decide) (by decide) (by decide) (by decide)) (by decide) (by decide)) ?_
  dsimp only
  refine x_k (p := 94) (sh_q B d_153 (p := 90) (f' := 7) (v := 94) rfl (by decide) rfl (by decide +kernel) (by decide)) (by decide) (by decide +kernel) ?_
  refine x_z (p := 94) (sh_q B d_153 (p := 90) (f' := 7) (v := 94) rfl (by decide) rfl (by decide +kernel) (by decide)) (by decide) (by decide +kernel) ?_
  refine x_k (p := 116) (sh_s B d_153 (by decide +kernel)) (by decide) (by decide +kernel) ?_
  refine x_p (D' := d_156) (p := 94) (f' := 1) (v' := 116) rfl (sh_q B d_153 (p := 90) (f' := 7) (v := 94) rfl (by decide) rfl (by decide +kernel) (by decide)) (by decide) (by decide) (sh_s B d_153 (by decide +kernel)) (by decide) ?_
  refine x_k (p := 90) rfl (by decide) (by decide +kernel) ?_
  refine x_k (p := 93) (sh_q B d_156 (p := 90) (f' := 6) (v := 93) rfl (by decide) rfl (by decide +kernel) (by decide)) (by decide) (by decide +kernel) ?_
  refine x_z (p := 93) (sh_q B d_156 (p := 90) (f' := 6) (v := 93) rfl (by decide) rfl (by decide +kernel) (by decide)) (by decide) (by decide +kernel) ?_
  refine x_k (p := 95) (sh_q B d_156 (p := 90) (f' := 8) (v := 95) rfl (by decide) rfl (by decide +kernel) (by decide)) (by decide) (by decide +kernel) ?_
  refine x_z (p := 95) (sh_q B d_156 (p := 90) (f' := 8) (v := 95) rfl (by decide) rfl (by decide +kernel) (by decide)) (by decide) (by decide +kernel) ?_
  refine x_k (p := 110) (sh_q B d_156 (p := 93) (f' := 1) (v := 110) (sh_q B d_156 (p := 90) (f' := 6) (v := 93) rfl (by decide) rfl (by decide +kernel) (by decide)) (by decide) (by decide) (by decide +kernel) (by decide)) (by decide) (by decide +kernel) ?_
  refine x_p (D' := d_157) (p := 95) (f' := 1) (v' := 110) rfl (sh_q B d_156 (p := 90) (f' := 8) (v := 95) rfl (by decide) rfl (by decide +kernel) (by decide)) (by decide) (by decide) (sh_q B d_156 (p := 93) (f' := 1) (v := 110) (sh_q B d_156 (p := 90) (f' := 6) (v := 93) rfl (by decide) rfl (by decide +kernel) (by decide)) (by decide) (by decide) (by decide +kernel) (by decide)) (by decide) ?_
  refine x_k (p := 96) (sh_q B d_157 (p := 90) (f' := 9) (v := 96) rfl (by decide) rfl (by decide +kernel) (by decide)) (by decide) (by decide +kernel) ?_
  refine x_z (p := 96) (sh_q B d_157 (p := 90) (f' := 9) (v := 96) rfl (by decide) rfl (by decide +kernel) (by decide)) (by decide) (by decide +kernel) ?_
  refine x_i (D' := d_158) (p := 96) (f' := 1) rfl (sh_q B d_157 (p := 90) (f' := 9) (v := 96) rfl (by decide) rfl (by decide +kernel) (by decide)) (by decide) (by decide) rfl ?_
  refine x_a (D' := d_159) (m' := 0) rfl rfl ?_
  refine zEv.ip (t_b hO (by decide)) ?_
  refine zEv.ip (t_z hO (by decide) (by decide)) ?_
  refine zEv.ip (t_b hO (by decide)) ?_
  refine zEv.ip (t_z hO (by decide) (by decide)) ?_
  refine x_b (D' := d_160) (k_Sh (p := 122) (g := 6) (l := 52) (n1 := 53) (n2 := 64) rfl (sh_s B d_158 (by decide +kernel)) (by decide) (by decide +kernel) (by decide +kernel) (t_v hO (j' := 2) (by decide) (by decide) (by decide) (by decide)) (t_v hO (j' := 2) (by decide) (by decide) (by decide) (by decide)) (by decide) (by decide)) ?_
  dsimp only
  refine x_k (p := 93) (sh_q B d_158 (p := 90) (f' := 6) (v := 93) rfl (by decide) rfl (by decide +kernel) (by decide)) (by decide) (by decide +kernel) ?_
  refine x_z (p := 93) (sh_q B d_158 (p := 90) (f' := 6) (v := 93) rfl (by decide) rfl (by decide +kernel) (by decide)) (by decide) (by decide +kernel) ?_
  refine x_k (p := 122) (sh_s B d_158 (by decide +kernel)) (by decide) (by decide +kernel) ?_
  refine x_p (D' := d_161) (p := 93) (f' := 2) (v' := 122) rfl (sh_q B d_158 (p := 90) (f' := 6) (v := 93) rfl (by decide) rfl (by decide +kernel) (by decide)) (by decide) (by decide) (sh_s B d_158 (by decide +kernel)) (by decide) ?_
  refine x_k (p := 90) rfl (by decide) (by decide +kernel) ?_
  refine x_a (D' := d_162) (m' := 0) rfl rfl ?_
  refine zEv.ip (t_b hO (by decide)) ?_
  refine zEv.ip (t_z hO (by decide) (by decide)) ?_
  refine zEv.ip (t_b hO (by decide)) ?_
  refine zEv.ip (t_z hO (by decide) (by decide)) ?_
  refine x_b (D' := d_163) (k_Sh (p := 128) (g := 9) (l := 52) (n1 := 53) (n2 := 512) rfl (sh_s B d_161 (by decide +kernel)) (by decide) (by decide +kernel) (by decide +kernel) (t_v hO (j' := 2) (by decide) (by decide) (by decide) (by decide)) (t_v hO (j' := 2) (by decide) (by decide) (by decide) (by decide)) (by decide) (by decide)) ?_
  dsimp only
  refine x_k (p := 94) (sh_q B d_161 (p := 90) (f' := 7) (v := 94) rfl (by decide) rfl (by decide +kernel) (by decide)) (by decide) (by decide +kernel) ?_
  refine x_z (p := 94) (sh_q B d_161 (p := 90) (f' := 7) (v := 94) rfl (by decide) rfl (by decide +kernel) (by decide)) (by decide) (by decide +kernel) ?_
  refine x_k (p := 128) (sh_s B d_161 (by decide +kernel)) (by decide) (by decide +kernel) ?_
  refine x_p (D' := d_164) (p := 94) (f' := 2) (v' := 128) rfl (sh_q B d_161 (p := 90) (f' := 7) (v := 94) rfl (by decide) rfl (by decide +kernel) (by decide)) (by decide) (by decide) (sh_s B d_161 (by decide +kernel)) (by decide) ?_
  refine x_k (p := 90) rfl (by decide) (by decide +kernel) ?_
  refine x_k (p := 93) (sh_q B d_164 (p := 90) (f' := 6) (v := 93) rfl (by decide) rfl (by decide +kernel) (by decide)) (by decide) (by decide +kernel) ?_
  refine x_z (p := 93) (sh_q B d_164 (p := 90) (f' := 6) (v := 93) rfl (by decide) rfl (by decide +kernel) (by decide)) (by decide) (by decide +kernel) ?_
  refine x_k (p := 95) (sh_q B d_164 (p := 90) (f' := 8) (v := 95) rfl (by decide) rfl (by decide +kernel) (by decide)) (by decide) (by decide +kernel) ?_
  refine x_z (p := 95) (sh_q B d_164 (p := 90) (f' := 8) (v := 95) rfl (by decide) rfl (by decide +kernel) (by decide)) (by decide) (by decide +kernel) ?_
  refine x_k (p := 122) (sh_q B d_164 (p := 93) (f' := 2) (v := 122) (sh_q B d_164 (p := 90) (f' := 6) (v := 93) rfl (by decide) rfl (by decide +kernel) (by decide)) (by decide) (by decide) (by decide +kernel) (by decide)) (by decide) (by decide +kernel) ?_
  refine x_p (D' := d_165) (p := 95) (f' := 2) (v' := 122) rfl (sh_q B d_164 (p := 90) (f' := 8) (v := 95) rfl (by decide) rfl (by decide +kernel) (by decide)) (by decide) (by decide) (sh_q B d_164 (p := 93) (f' := 2) (v := 122) (sh_q B d_164 (p := 90) (f' := 6) (v := 93) rfl (by decide) rfl (by decide +kernel) (by decide)) (by decide) (by decide) (by decide +kernel) (by decide)) (by decide) ?_
  refine x_k (p := 96) (sh_q B d_165 (p := 90) (f' := 9) (v := 96) rfl (by decide) rfl (by decide +kernel) (by decide)) (by decide) (by decide +kernel) ?_
  refine x_z (p := 96) (sh_q B d_165 (p := 90) (f' := 9) (v := 96) rfl (by decide) rfl (by decide +kernel) (by decide)) (by decide) (by decide +kernel) ?_
  refine x_i (D' := d_166) (p := 96) (f' := 2) rfl (sh_q B d_165 (p := 90) (f' := 9) (v := 96) rfl (by decide) rfl (by decide +kernel) (by decide)) (by decide) (by decide) rfl ?_
  exact w
set_option maxRecDepth 100000 in
set_option maxHeartbeats 4000000 in
theorem k_FR {O : zO} {B E : zM} {r : Unit × zM} (hO : zTabOk O) {a0 a1 a2 a3 a4 : Nat} (h0 : a0 = z_s B + 74) (h1 : a1 = z_s B + 2) (h2 : a2 = z_s B + 6) (h3 : a3 = z_s B + 70) (h4 : a4 = z_s B + 71) (hS : zEv (fun n => f_Seq_tail O n (z_s B + 90) (sh B d_166)) ((), E)) (w : zEv (fun n => f_FR_tail O n (z_s B + 74) (z_s B + 90) ((), E)) r) : zEv (fun n => F_FR_init O n a0 a1 a2 a3 a4 (sh B d_83)) r := by
  subst h0 h1 h2 h3 h4
  unfold F_FR_init f_FR_init_0
  refine x_k (p := 74) rfl (by decide) (by decide +kernel) ?_
  refine x_p (D' := d_84) (p := 74) (f' := 0) (v' := 2) rfl rfl (by decide) rfl rfl (by decide) ?_
  refine x_p (D' := d_85) (p := 74) (f' := 1) (v' := 6) rfl rfl (by decide) rfl rfl (by decide) ?_
  refine x_p (D' := d_86) (p := 74) (f' := 2) (v' := 70) rfl rfl (by decide) rfl rfl (by decide) ?_
  refine x_p (D' := d_87) (p := 74) (f' := 3) (v' := 71) rfl rfl (by decide) rfl rfl (by decide) ?_
  refine x_a (D' := d_88) (m' := 0) rfl rfl ?_
  refine x_b (D' := d_120) (k_Lit_1 hO (sh_s B d_87 (by decide +kernel)) rfl rfl) ?_
  dsimp only
  refine x_k (p := 74) rfl (by decide) (by decide +kernel) ?_
  refine x_p (D' := d_121) (p := 74) (f' := 4) (v' := 75) rfl rfl (by decide) rfl (sh_s B d_87 (by decide +kernel)) (by decide) ?_
  refine x_a (D' := d_122) (m' := 0) rfl rfl ?_
  refine x_k (p := 74) rfl (by decide) (by decide +kernel) ?_
  refine zEv.bind (k_Seq hO (sh_s B d_121 (by decide +kernel)) rfl rfl rfl (sh_q B d_122 (p := 74) (f' := 4) (v := 75) rfl (by decide) rfl (by decide +kernel) (by decide)) hS) ?_
  have e : z_s (sh B d_121) + 1 = z_s B + 90 := sh_s B d_121 (by decide +kernel)
  rw [e]
  exact w
set_option maxRecDepth 100000 in
set_option maxHeartbeats 4000000 in
theorem k_SF {O : zO} {B E E2 : zM} {r : Unit × zM} (hO : zTabOk O) {a0 : Nat} (h0 : a0 = z_s B + 1) (hS : zEv (fun n => f_Seq_tail O n (z_s B + 90) (sh B d_166)) ((), E)) (hF : zEv (fun n => f_FR_tail O n (z_s B + 74) (z_s B + 90) ((), E)) ((), E2)) (w : zEv (fun n => f_SF_tail O n (z_s B + 1) (z_s B + 74) ((), E2)) r) : zEv (fun n => F_SF_init O n a0 (sh B d_0)) r := by
  subst h0
  unfold F_SF_init f_SF_init_0
  refine x_k (p := 1) rfl (by decide) (by decide +kernel) ?_
  refine x_a (D' := d_1) (m' := 0) rfl rfl ?_
  refine x_b (D' := d_2) (k_Row (p := 2) (N := 12000) rfl (sh_s B d_0 (by decide +kernel)) (by decide) (by decide +kernel) (by decide +kernel) (by decide) (by decide)) ?_
  dsimp only
  refine x_k (p := 1) rfl (by decide) (by decide +kernel) ?_
  refine x_p (D' := d_3) (p := 1) (f' := 0) (v' := 2) rfl rfl (by decide) rfl (sh_s B d_0 (by decide +kernel)) (by decide) ?_
  refine x_a (D' := d_4) (m' := 0) rfl rfl ?_
  refine x_b (D' := d_5) (k_Row (p := 4) (N := 32768) rfl (sh_s B d_3 (by decide +kernel)) (by decide) (by decide +kernel) (by decide +kernel) (by decide) (by decide)) ?_
  dsimp only
  refine x_k (p := 1) rfl (by decide) (by decide +kernel) ?_
  refine x_p (D' := d_6) (p := 1) (f' := 1) (v' := 4) rfl rfl (by decide) rfl (sh_s B d_3 (by decide +kernel)) (by decide) ?_
  refine x_a (D' := d_7) (m' := 0) rfl rfl ?_
  refine x_b (D' := d_69) (k_Dict_1 hO (sh_s B d_6 (by decide +kernel))) ?_
  dsimp only
  refine x_k (p := 1) rfl (by decide) (by decide +kernel) ?_
  refine x_p (D' := d_70) (p := 1) (f' := 2) (v' := 6) rfl rfl (by decide) rfl (sh_s B d_6 (by decide +kernel)) (by decide) ?_
  refine x_a (D' := d_71) (m' := 0) rfl rfl ?_
  refine x_b (D' := d_71) (k_Rep (p := 70) (sh_s B d_70 (by decide +kernel)) (by decide) (by decide +kernel)) ?_
  dsimp only
  refine x_k (p := 1) rfl (by decide) (by decide +kernel) ?_
  refine x_p (D' := d_72) (p := 1) (f' := 3) (v' := 70) rfl rfl (by decide) rfl (sh_s B d_70 (by decide +kernel)) (by decide) ?_
  refine x_a (D' := d_73) (m' := 0) rfl rfl ?_
  refine x_k (p := 1) rfl (by decide) (by decide +kernel) ?_
  refine x_k (p := 6) (sh_q B d_73 (p := 1) (f' := 2) (v := 6) rfl (by decide) rfl (by decide +kernel) (by decide)) (by decide) (by decide +kernel) ?_
  refine x_b (D' := d_81) (k_Content_1 hO (sh_s B d_72 (by decide +kernel)) (sh_q B d_73 (p := 6) (f' := 0) (v := 7) (sh_q B d_73 (p := 1) (f' := 2) (v := 6) rfl (by decide) rfl (by decide +kernel) (by decide)) (by decide) rfl (by decide +kernel) (by decide))) ?_
  dsimp only
  refine x_k (p := 1) rfl (by decide) (by decide +kernel) ?_
  refine x_p (D' := d_82) (p := 1) (f' := 4) (v' := 71) rfl rfl (by decide) rfl (sh_s B d_72 (by decide +kernel)) (by decide) ?_
  refine x_a (D' := d_83) (m' := 0) rfl rfl ?_
  refine x_k (p := 1) rfl (by decide) (by decide +kernel) ?_
  refine zEv.bind (k_FR hO (sh_s B d_82 (by decide +kernel)) (sh_q B d_83 (p := 1) (f' := 0) (v := 2) rfl (by decide) rfl (by decide +kernel) (by decide)) (sh_q B d_83 (p := 1) (f' := 2) (v := 6) rfl (by decide) rfl (by decide +kernel) (by decide)) (sh_q B d_83 (p := 1) (f' := 3) (v := 70) rfl (by decide) rfl (by decide +kernel) (by decide)) (sh_q B d_83 (p := 1) (f' := 4) (v := 71) rfl (by decide) rfl (by decide +kernel) (by decide)) hS hF) ?_
  have e : z_s (sh B d_82) + 1 = z_s B + 74 := sh_s B d_82 (by decide +kernel)
  rw [e]
  exact w
