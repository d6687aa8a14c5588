theorem ws_in {C : String} {T : u_T} {N : Nat} {ps : List Nat} (h : ((List.range N).zip ps).all (fun q => hasW q.2 (u_lay C T q.1)) = true) (hl : ps.length = N) : ∀ w ∈ u_ws C T N, w ∈ tg := by
  intro w hw
  obtain ⟨k, hk, rfl⟩ := List.mem_map.mp hw
  have hk := List.mem_range.mp hk
  have hp : k < ps.length := by omega
  have h1 := List.all_eq_true.mp h (k, ps[k]) (List.mem_of_getElem? (i := k) (by rw [List.getElem?_zip_eq_some]; exact ⟨by rw [List.getElem?_range hk], List.getElem?_eq_getElem hp⟩))
  exact hasW_in h1
theorem clw0 : ((List.range 13).zip [187, 189, 191, 193, 195, 197, 199, 201, 203, 205, 207, 209, 211]).all (fun q => hasW q.2 (u_lay RX0 TX0 q.1)) = true := by decide +kernel
theorem cli0 : ∀ w ∈ u_ws RX0 TX0 13, w ∈ tg := ws_in clw0 rfl
theorem clw1 : ((List.range 1).zip [369]).all (fun q => hasW q.2 (u_lay RX1 TX1 q.1)) = true := by decide +kernel
theorem cli1 : ∀ w ∈ u_ws RX1 TX1 1, w ∈ tg := ws_in clw1 rfl
theorem clw2 : ((List.range 14).zip [423, 425, 427, 429, 431, 433, 435, 437, 439, 441, 443, 445, 447, 449]).all (fun q => hasW q.2 (u_lay RX2 TX2 q.1)) = true := by decide +kernel
theorem cli2 : ∀ w ∈ u_ws RX2 TX2 14, w ∈ tg := ws_in clw2 rfl
theorem clw3 : ((List.range 3).zip [233, 235, 237]).all (fun q => hasW q.2 (u_lay RX3 TX3 q.1)) = true := by decide +kernel
theorem cli3 : ∀ w ∈ u_ws RX3 TX3 3, w ∈ tg := ws_in clw3 rfl
theorem clw4 : ((List.range 14).zip [257, 259, 261, 263, 265, 267, 269, 271, 273, 275, 277, 279, 281, 283]).all (fun q => hasW q.2 (u_lay RX4 TX4 q.1)) = true := by decide +kernel
theorem cli4 : ∀ w ∈ u_ws RX4 TX4 14, w ∈ tg := ws_in clw4 rfl
theorem clw5 : ((List.range 6).zip [308, 310, 312, 314, 316, 318]).all (fun q => hasW q.2 (u_lay RX5 TX5 q.1)) = true := by decide +kernel
theorem cli5 : ∀ w ∈ u_ws RX5 TX5 6, w ∈ tg := ws_in clw5 rfl
theorem clw6 : ((List.range 10).zip [340, 342, 344, 346, 348, 350, 352, 354, 356, 358]).all (fun q => hasW q.2 (u_lay RX6 TX6 q.1)) = true := by decide +kernel
theorem cli6 : ∀ w ∈ u_ws RX6 TX6 10, w ∈ tg := ws_in clw6 rfl
theorem clw7 : ((List.range 2).zip [119, 121]).all (fun q => hasW q.2 (u_lay RX7 TX7 q.1)) = true := by decide +kernel
theorem cli7 : ∀ w ∈ u_ws RX7 TX7 2, w ∈ tg := ws_in clw7 rfl
theorem clw8 : ((List.range 7).zip [386, 388, 390, 392, 394, 396, 398]).all (fun q => hasW q.2 (u_lay RX8 TX8 q.1)) = true := by decide +kernel
theorem cli8 : ∀ w ∈ u_ws RX8 TX8 7, w ∈ tg := ws_in clw8 rfl
theorem clw9 : ((List.range 10).zip [462, 464, 466, 468, 470, 472, 474, 476, 478, 480]).all (fun q => hasW q.2 (u_lay RX9 TX9 q.1)) = true := by decide +kernel
theorem cli9 : ∀ w ∈ u_ws RX9 TX9 10, w ∈ tg := ws_in clw9 rfl
theorem clw10 : ((List.range 59).zip [1238, 1240, 1242, 1244, 1246, 1248, 1250, 1252, 1254, 1256, 1258, 1260, 1262, 1264, 1266, 1268, 1270, 1272, 1274, 1276, 1278, 1280, 1282, 1284, 1286, 1288, 1290, 1292, 1294, 1296, 1298, 1300, 1302, 1304, 1306, 1308, 1310, 1312, 1314, 1316, 1318, 1320, 1322, 1324, 1326, 1328, 1330, 1332, 1334, 1336, 1338, 1340, 1342, 1344, 1346, 1348, 1350, 1352, 1354]).all (fun q => hasW q.2 (u_lay RX10 TX10 q.1)) = true := by decide +kernel
theorem cli10 : ∀ w ∈ u_ws RX10 TX10 59, w ∈ tg := ws_in clw10 rfl
theorem tg_cl : pClOk tg := by
  intro ci C T N h
  match ci, h with
  | 0, h => cases h; exact ⟨⟨tyX0, tyX0_ok⟩, nmX0, cli0⟩
  | 1, h => cases h; exact ⟨⟨tyX1, tyX1_ok⟩, nmX1, cli1⟩
  | 2, h => cases h; exact ⟨⟨tyX2, tyX2_ok⟩, nmX2, cli2⟩
  | 3, h => cases h; exact ⟨⟨tyX3, tyX3_ok⟩, nmX3, cli3⟩
  | 4, h => cases h; exact ⟨⟨tyX4, tyX4_ok⟩, nmX4, cli4⟩
  | 5, h => cases h; exact ⟨⟨tyX5, tyX5_ok⟩, nmX5, cli5⟩
  | 6, h => cases h; exact ⟨⟨tyX6, tyX6_ok⟩, nmX6, cli6⟩
  | 7, h => cases h; exact ⟨⟨tyX7, tyX7_ok⟩, nmX7, cli7⟩
  | 8, h => cases h; exact ⟨⟨tyX8, tyX8_ok⟩, nmX8, cli8⟩
  | 9, h => cases h; exact ⟨⟨tyX9, tyX9_ok⟩, nmX9, cli9⟩
  | 10, h => cases h; exact ⟨⟨tyX10, tyX10_ok⟩, nmX10, cli10⟩
  | n + 11, h => cases h
def codeC (c : Nat) (d : String) : Bool := match c with
  | 0 => decide (parseFieldDescriptor d = some .int)
  | 1 => decide (parseFieldDescriptor d = some .long)
  | 2 => decide (parseFieldDescriptor d = some .char)
  | _ => (match parseFieldDescriptor d with
    | some (.array _) => true
    | some (.object _) => true
    | _ => false)
theorem codeC_ok {c : Nat} {d : String} (h : codeC c d = true) : pCodeOk c d := by
  match c, h with
  | 0, h => show parseFieldDescriptor d = some .int; exact of_decide_eq_true (show decide (parseFieldDescriptor d = some .int) = true from h)
  | 1, h => show parseFieldDescriptor d = some .long; exact of_decide_eq_true (show decide (parseFieldDescriptor d = some .long) = true from h)
  | 2, h => show parseFieldDescriptor d = some .char; exact of_decide_eq_true (show decide (parseFieldDescriptor d = some .char) = true from h)
  | c + 3, h =>
    have h : (match parseFieldDescriptor d with | some (.array _) => true | some (.object _) => true | _ => false) = true := h
    show ∃ t, parseFieldDescriptor d = some t ∧ ((∃ q, t = .array q) ∨ ∃ q, t = .object q)
    split at h
    · next hp => exact ⟨_, hp, Or.inl ⟨_, rfl⟩⟩
    · next hp => exact ⟨_, hp, Or.inr ⟨_, rfl⟩⟩
    · cases h
def shC (q : pSh) : Bool := (List.range 11).all fun ci => if q.1 = ci + 7 then (match vwCl[ci]? with
  | some (_, T, _) => ((List.range q.2.2.length).zip q.2.2).all fun x => codeC x.2 (T x.1).2.2.1
  | none => true) else true
theorem shOk : Sh.all shC = true := by decide +kernel
theorem sh_ok : pShOk Sh := by
  intro k ci n fs C T N hk hc b c hb
  have h1 := List.all_eq_true.mp shOk _ (List.mem_of_getElem? hk)
  have hci : ci < 11 := (List.getElem?_eq_some_iff.mp hc).1
  have h2 := List.all_eq_true.mp h1 ci (List.mem_range.mpr hci)
  rw [if_pos rfl, hc] at h2
  have hbl : b < fs.length := (List.getElem?_eq_some_iff.mp hb).1
  have h3 := List.all_eq_true.mp h2 (b, c) (List.mem_of_getElem? (i := b) (by rw [List.getElem?_zip_eq_some]; exact ⟨by rw [List.getElem?_range hbl], hb⟩))
  exact codeC_ok h3
theorem tg_good : ∀ w ∈ tg, goodWord w = true := fun w h => (List.mem_filter.mp h).2
