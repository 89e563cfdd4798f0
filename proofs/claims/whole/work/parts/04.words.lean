/-! part 04: the words of the tables, by their places -/
def tm_WS : List Cond := lw_tbl.filter goodWord
def tm_isN (w : Cond) : Bool := match w with
  | .methodLinkNest _ _ _ _ => true
  | .fieldLinkNest _ _ _ _ _ _ => true
  | _ => false
def tm_NW : List Cond := lw_tbl.filter tm_isN
def tm_wd (pos : Nat) (w : Cond) : Bool := decide (lw_tbl[pos]? = some w) && goodWord w
def tm_wn (pos : Nat) (w : Cond) : Bool := decide (lw_tbl[pos]? = some w) && tm_isN w
theorem tm_wd_in {pos : Nat} {w : Cond} (h : tm_wd pos w = true) : w ∈ tm_WS := by
  simp only [tm_wd, Bool.and_eq_true, decide_eq_true_eq] at h
  exact List.mem_filter.mpr ⟨List.mem_of_getElem? h.1, h.2⟩
theorem tm_wn_in {pos : Nat} {w : Cond} (h : tm_wn pos w = true) : w ∈ tm_NW := by
  simp only [tm_wn, Bool.and_eq_true, decide_eq_true_eq] at h
  exact List.mem_filter.mpr ⟨List.mem_of_getElem? h.1, h.2⟩
theorem tm_WS_good {w : Cond} (h : w ∈ tm_WS) : (w.onTables && w.keeps) = true ∨ ∃ ty, w = .arrayClass ty := good_of_word (List.mem_filter.mp h).2
def tm_okF (own : Nat) : Bool := (tm_FL own).all fun q => tm_wd q.2.2 (.fieldLink (tm_cn own) q.1 (tm_T (q.2.1 / 100) (q.2.1 % 100)).1 (tm_T (q.2.1 / 100) (q.2.1 % 100)).2.1 (tm_T (q.2.1 / 100) (q.2.1 % 100)).2.2.1) && decide (q.2.1 % 100 < tm_nf (q.2.1 / 100)) && decide (q.2.1 / 100 ≤ 12) && decide ((tm_T (q.2.1 / 100) (q.2.1 % 100)).1 = tm_cn (q.2.1 / 100))
def tm_okM (own : Nat) : Bool := (tm_ML own).all fun q =>
  if q.2.1 = 999 then tm_wd q.2.2.1 (.methodLink (tm_cn own) q.1 objectInit)
  else if q.2.1 = 998 then tm_wd q.2.2.1 (.methodLink (tm_cn own) q.1 arraycopyName)
  else if q.2.1 = 994 then tm_wd q.2.2.1 (.methodLink (tm_cn own) q.1 Lib.Math.max.name)
  else if q.2.1 = 995 then tm_wd q.2.2.1 (.methodLink (tm_cn own) q.1 Lib.Math.min.name)
  else if q.2.1 = 996 then tm_wd q.2.2.1 (.methodLink (tm_cn own) q.1 Lib.Math.abs.name)
  else if q.2.1 = 997 then tm_wd q.2.2.1 (.methodLink (tm_cn own) q.1 Lib.MathLoose.abs_long.x)
  else decide (q.2.1 < 259) && (if q.2.2.2 = 0 then tm_wd q.2.2.1 (.methodLink (tm_cn own) q.1 (tm_nm q.2.1)) else tm_wn q.2.2.1 (.methodLinkNest (tm_cn own) q.1 (tm_nm q.2.1) RX11))
def tm_okK (own : Nat) : Bool := (tm_KL own).all fun q => tm_wd q.2.2 (.constant (tm_cn own) q.1 (Int32.ofInt q.2.1))
def tm_okL (own : Nat) : Bool := (tm_LL own).all fun q => tm_wd q.2.2 (.constantLong (tm_cn own) q.1 (Int64.ofNat q.2.1))
def tm_okN (own : Nat) : Bool := (tm_NL own).all fun q => tm_wd q.2.2 (.classLink (tm_cn own) q.1 (tm_cn q.2.1)) && decide (q.2.1 ≤ 12)
def tm_sC (k : Nat) : String := if k = 0 then RX11 else RX9
def tm_sF (k : Nat) : String := if k = 0 then "KIND_ABOVE" else "BODIES"
def tm_okS (own : Nat) : Bool := (tm_SL own).all fun q => decide (q.2.1 ≤ 1) && (if q.2.2.2 = 0 then tm_wd q.2.2.1 (.fieldLink (tm_cn own) q.1 (tm_sC q.2.1) (tm_sF q.2.1) "[I") else tm_wn q.2.2.1 (.fieldLinkNest (tm_cn own) q.1 (tm_sC q.2.1) (tm_sF q.2.1) "[I" RX11))
def tm_wp (y : Nat) : Nat × Nat × Nat := tm_WP.getD y (0, 0, 0)
def tm_cp (c : Nat) : Nat × Nat × Nat := tm_CP.getD c (0, 0, 0)
def tm_okY (y : Nat) : Bool :=
  (match lw_tbl[(tm_wp y).1]? with
    | some (.code n _ mx rt) => decide (n = tm_nm y) && decide (mx = tm_mx y) && decide (rt = tm_rt y)
    | _ => false) && (if tm_st y then tm_wd (tm_wp y).2.1 (.static (tm_nm y)) else tm_wd (tm_wp y).2.1 (.instanceMethod (tm_nm y)))
  && (if tm_st y || decide ((tm_nm y).name = "<init>") then true else tm_wd (tm_wp y).2.2 (.selects (tm_nm y).cls (tm_nm y) (tm_nm y))) && tm_wd (tm_cp (tm_ci y)).1 (.initialized (tm_nm y).cls)
  && decide ((tm_nm y).cls = tm_cn (tm_ci y)) && decide ((tm_nm y).cls ≠ "java/lang/invoke/MethodHandle") && decide ((tm_nm y).cls ≠ "java/lang/invoke/VarHandle")
  && decide ((parseMethodDescriptor (tm_nm y).desc).map (fun d => d.parameters.length) = some (tm_np y)) && plainName (tm_nm y).cls && decide (tm_mx y ≤ 45)
  && (tm_st y || decide (tm_ci y ≤ 12)) && (decide ((tm_nm y).name ≠ "<init>") || decide (tm_rt y = none))
def tm_LP (c : Nat) : List Nat := match c with
  | 0 => [367, 369, 371, 373]
  | 1 => [257, 259, 261, 263, 265, 267]
  | 2 => [431, 433, 435, 437, 439]
  | 3 => [390, 392, 394, 396, 398, 400, 402, 404, 406, 408, 410, 412, 414]
  | 4 => [457, 459, 461, 463, 465, 467]
  | 5 => [166, 168, 170, 172, 174, 176, 178, 180, 182, 184, 186, 188, 190]
  | 6 => [215, 217, 219, 221, 223, 225, 227, 229]
  | 7 => [508, 510, 512, 514]
  | 8 => [284, 286, 288]
  | 9 => [483, 485, 487, 489, 491]
  | 10 => [323, 325, 327, 329, 331, 333, 335, 337, 339, 341, 343]
  | 11 => [526, 528, 530, 532, 534, 536, 538, 540, 542]
  | _ => [1207, 1209, 1211, 1213, 1215, 1217, 1219, 1221, 1223, 1225, 1227, 1229, 1231, 1233, 1235, 1237, 1239, 1241, 1243, 1245, 1247, 1249, 1251, 1253, 1255, 1257, 1259, 1261, 1263, 1265, 1267]
def tm_okC (c : Nat) : Bool := tm_wd (tm_cp c).2.1 (.instantiable (tm_cn c) (tm_nf c)) && tm_wd (tm_cp c).1 (.initialized (tm_cn c)) && (List.range (tm_nf c)).all (fun k => tm_wd ((tm_LP c).getD k 0) (u_lay (tm_cn c) (tm_T c) k) && decide (parseFieldDescriptor (tm_T c k).2.2.1 = some (tm_ty c k))) && (List.range (tm_nf c)).all (fun a => (List.range (tm_nf c)).all (fun b => decide (a = b) || decide ((tm_T c a).2.1 ≠ (tm_T c b).2.1)))
set_option maxRecDepth 100000 in
theorem tm_okF_1 : (List.range 6).all tm_okF = true := by decide +kernel
set_option maxRecDepth 100000 in
theorem tm_okF_2 : ((List.range 18).drop 6).all tm_okF = true := by decide +kernel
set_option maxRecDepth 100000 in
theorem tm_okM_1 : (List.range 11).all tm_okM = true := by decide +kernel
set_option maxRecDepth 100000 in
theorem tm_okM_2 : [11].all tm_okM = true := by decide +kernel
set_option maxRecDepth 100000 in
theorem tm_okM_3 : [12].all tm_okM = true := by decide +kernel
set_option maxRecDepth 100000 in
theorem tm_okM_4 : [13, 14, 15, 16, 17].all tm_okM = true := by decide +kernel
set_option maxRecDepth 100000 in
theorem tm_okK_1 : (List.range 18).all (fun o => tm_okK o && tm_okL o && tm_okN o && tm_okS o) = true := by decide +kernel
set_option maxRecDepth 100000 in
theorem tm_okY_0 : ((List.range 259).drop 0 |>.take 40).all tm_okY = true := by decide +kernel
set_option maxRecDepth 100000 in
theorem tm_okY_1 : ((List.range 259).drop 40 |>.take 40).all tm_okY = true := by decide +kernel
set_option maxRecDepth 100000 in
theorem tm_okY_2 : ((List.range 259).drop 80 |>.take 40).all tm_okY = true := by decide +kernel
set_option maxRecDepth 100000 in
theorem tm_okY_3 : ((List.range 259).drop 120 |>.take 40).all tm_okY = true := by decide +kernel
set_option maxRecDepth 100000 in
theorem tm_okY_4 : ((List.range 259).drop 160 |>.take 40).all tm_okY = true := by decide +kernel
set_option maxRecDepth 100000 in
theorem tm_okY_5 : ((List.range 259).drop 200 |>.take 40).all tm_okY = true := by decide +kernel
set_option maxRecDepth 100000 in
theorem tm_okY_6 : ((List.range 259).drop 240 |>.take 40).all tm_okY = true := by decide +kernel
set_option maxRecDepth 100000 in
theorem tm_okC_1 : (List.range 13).all tm_okC = true := by decide +kernel
set_option maxRecDepth 100000 in
theorem tm_x_st_max : tm_wd 761 (.static Lib.Math.max.name) = true := by decide +kernel
set_option maxRecDepth 100000 in
theorem tm_x_cd_max : tm_wd 762 (.code Lib.Math.max.name Lib.Math.max.code 2 (some .int)) = true := by decide +kernel
set_option maxRecDepth 100000 in
theorem tm_x_st_min : tm_wd 624 (.static Lib.Math.min.name) = true := by decide +kernel
set_option maxRecDepth 100000 in
theorem tm_x_cd_min : tm_wd 625 (.code Lib.Math.min.name Lib.Math.min.code 2 (some .int)) = true := by decide +kernel
set_option maxRecDepth 100000 in
theorem tm_x_st_abs : tm_wd 938 (.static Lib.Math.abs.name) = true := by decide +kernel
set_option maxRecDepth 100000 in
theorem tm_x_cd_abs : tm_wd 939 (.code Lib.Math.abs.name Lib.Math.abs.code 1 (some .int)) = true := by decide +kernel
set_option maxRecDepth 100000 in
theorem tm_x_st_absl : tm_wd 965 (.static Lib.MathLoose.abs_long.x) = true := by decide +kernel
set_option maxRecDepth 100000 in
theorem tm_x_cd_absl : tm_wd 966 (.code Lib.MathLoose.abs_long.x Lib.MathLoose.abs_long.code 2 (some .long)) = true := by decide +kernel
set_option maxRecDepth 100000 in
theorem tm_x_in_math : tm_wd 111 (.initialized "java/lang/Math") = true := by decide +kernel
set_option maxRecDepth 100000 in
theorem tm_x_in_sys : tm_wd 113 (.initialized "java/lang/System") = true := by decide +kernel
set_option maxRecDepth 100000 in
theorem tm_x_nat_copy : tm_wd 901 (.native arraycopyName) = true := by decide +kernel
set_option maxRecDepth 100000 in
theorem tm_x_st_copy : tm_wd 900 (.static arraycopyName) = true := by decide +kernel
set_option maxRecDepth 100000 in
theorem tm_x_im_obj : tm_wd 120 (.instanceMethod objectInit) = true := by decide +kernel
set_option maxRecDepth 100000 in
theorem tm_x_cd_obj : tm_wd 121 (.code objectInit ⟨#[0xb1]⟩ 1 none) = true := by decide +kernel
set_option maxRecDepth 100000 in
theorem tm_x_ac_int : tm_wd 193 (.arrayClass .int) = true := by decide +kernel
set_option maxRecDepth 100000 in
theorem tm_x_ac_byte : tm_wd 346 (.arrayClass .byte) = true := by decide +kernel
set_option maxRecDepth 100000 in
theorem tm_x_ac_boolean : tm_wd 1270 (.arrayClass .boolean) = true := by decide +kernel
set_option maxRecDepth 100000 in
theorem tm_x_ls_ka : lw_tbl[717]? = some (.laysStatic "TrainMile" "KIND_ABOVE" "[I") := by decide +kernel
set_option maxRecDepth 100000 in
theorem tm_x_ls_bo : lw_tbl[1077]? = some (.laysStatic "TrainMile$Voices" "BODIES" "[I") := by decide +kernel
