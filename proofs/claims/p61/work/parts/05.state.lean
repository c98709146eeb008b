abbrev FW : Type := (Nat → Int32) × Int32
abbrev fw_it (s : FW) : (Nat → Int32) := s.1
abbrev fw_n (s : FW) : Int32 := s.2
abbrev fw_set_it (s : FW) (v : (Nat → Int32)) : FW := (v, s.2)
abbrev fw_set_n (s : FW) (v : Int32) : FW := (s.1, v)
abbrev HL : Type := FW × FW × FW × (Nat → Int32)
abbrev hl_fr (s : HL) : FW := s.1
abbrev hl_to (s : HL) : FW := s.2.1
abbrev hl_he (s : HL) : FW := s.2.2.1
abbrev hl_ln (s : HL) : (Nat → Int32) := s.2.2.2
abbrev hl_set_fr (s : HL) (v : FW) : HL := (v, s.2)
abbrev hl_set_to (s : HL) (v : FW) : HL := (s.1, v, s.2.2)
abbrev hl_set_he (s : HL) (v : FW) : HL := (s.1, s.2.1, v, s.2.2.2)
abbrev hl_set_ln (s : HL) (v : (Nat → Int32)) : HL := (s.1, s.2.1, s.2.2.1, v)
abbrev ST : Type := Int32 × Int32 × Int32 × Int32 × HL × FW × FW × Int32 × Int32 × Int32
abbrev st_off (s : ST) : Int32 := s.1
abbrev st_node (s : ST) : Int32 := s.2.1
abbrev st_swing (s : ST) : Int32 := s.2.2.1
abbrev st_cloud (s : ST) : Int32 := s.2.2.2.1
abbrev st_hill (s : ST) : HL := s.2.2.2.2.1
abbrev st_stones (s : ST) : FW := s.2.2.2.2.2.1
abbrev st_clouds (s : ST) : FW := s.2.2.2.2.2.2.1
abbrev st_today (s : ST) : Int32 := s.2.2.2.2.2.2.2.1
abbrev st_looks (s : ST) : Int32 := s.2.2.2.2.2.2.2.2.1
abbrev st_seed (s : ST) : Int32 := s.2.2.2.2.2.2.2.2.2
abbrev st_set_off (s : ST) (v : Int32) : ST := (v, s.2)
abbrev st_set_node (s : ST) (v : Int32) : ST := (s.1, v, s.2.2)
abbrev st_set_swing (s : ST) (v : Int32) : ST := (s.1, s.2.1, v, s.2.2.2)
abbrev st_set_cloud (s : ST) (v : Int32) : ST := (s.1, s.2.1, s.2.2.1, v, s.2.2.2.2)
abbrev st_set_hill (s : ST) (v : HL) : ST := (s.1, s.2.1, s.2.2.1, s.2.2.2.1, v, s.2.2.2.2.2)
abbrev st_set_stones (s : ST) (v : FW) : ST := (s.1, s.2.1, s.2.2.1, s.2.2.2.1, s.2.2.2.2.1, v, s.2.2.2.2.2.2)
abbrev st_set_clouds (s : ST) (v : FW) : ST := (s.1, s.2.1, s.2.2.1, s.2.2.2.1, s.2.2.2.2.1, s.2.2.2.2.2.1, v, s.2.2.2.2.2.2.2)
abbrev st_set_today (s : ST) (v : Int32) : ST := (s.1, s.2.1, s.2.2.1, s.2.2.2.1, s.2.2.2.2.1, s.2.2.2.2.2.1, s.2.2.2.2.2.2.1, v, s.2.2.2.2.2.2.2.2)
abbrev st_set_looks (s : ST) (v : Int32) : ST := (s.1, s.2.1, s.2.2.1, s.2.2.2.1, s.2.2.2.2.1, s.2.2.2.2.2.1, s.2.2.2.2.2.2.1, s.2.2.2.2.2.2.2.1, v, s.2.2.2.2.2.2.2.2.2)
abbrev st_set_seed (s : ST) (v : Int32) : ST := (s.1, s.2.1, s.2.2.1, s.2.2.2.1, s.2.2.2.2.1, s.2.2.2.2.2.1, s.2.2.2.2.2.2.1, s.2.2.2.2.2.2.2.1, s.2.2.2.2.2.2.2.2.1, v)
abbrev SH : Type := (Nat → Int64) × Int32 × Int32 × Int32
abbrev sh_el (s : SH) : (Nat → Int64) := s.1
abbrev sh_content (s : SH) : Int32 := s.2.1
abbrev sh_size (s : SH) : Int32 := s.2.2.1
abbrev sh_day (s : SH) : Int32 := s.2.2.2
abbrev sh_set_el (s : SH) (v : (Nat → Int64)) : SH := (v, s.2)
abbrev sh_set_content (s : SH) (v : Int32) : SH := (s.1, v, s.2.2)
abbrev sh_set_size (s : SH) (v : Int32) : SH := (s.1, s.2.1, v, s.2.2.2)
abbrev sh_set_day (s : SH) (v : Int32) : SH := (s.1, s.2.1, s.2.2.1, v)
abbrev TP : Type := (Nat → Int32) × Int32 × Int32 × Int32 × Int32 × Int32
abbrev tp_by (s : TP) : (Nat → Int32) := s.1
abbrev tp_size (s : TP) : Int32 := s.2.1
abbrev tp_token (s : TP) : Int32 := s.2.2.1
abbrev tp_start (s : TP) : Int32 := s.2.2.2.1
abbrev tp_fin (s : TP) : Int32 := s.2.2.2.2.1
abbrev tp_value (s : TP) : Int32 := s.2.2.2.2.2
abbrev tp_set_by (s : TP) (v : (Nat → Int32)) : TP := (v, s.2)
abbrev tp_set_size (s : TP) (v : Int32) : TP := (s.1, v, s.2.2)
abbrev tp_set_token (s : TP) (v : Int32) : TP := (s.1, s.2.1, v, s.2.2.2)
abbrev tp_set_start (s : TP) (v : Int32) : TP := (s.1, s.2.1, s.2.2.1, v, s.2.2.2.2)
abbrev tp_set_fin (s : TP) (v : Int32) : TP := (s.1, s.2.1, s.2.2.1, s.2.2.2.1, v, s.2.2.2.2.2)
abbrev tp_set_value (s : TP) (v : Int32) : TP := (s.1, s.2.1, s.2.2.1, s.2.2.2.1, s.2.2.2.2.1, v)
abbrev XS : Type := ST × ST × ST × TP × (Nat → Int32) × (Nat → SH) × (Nat → Int32) × Bool
abbrev x_now (s : XS) : ST := s.1
abbrev x_draft (s : XS) : ST := s.2.1
abbrev x_kept (s : XS) : ST := s.2.2.1
abbrev x_tape (s : XS) : TP := s.2.2.2.1
abbrev x_often (s : XS) : (Nat → Int32) := s.2.2.2.2.1
abbrev x_sh (s : XS) : (Nat → SH) := s.2.2.2.2.2.1
abbrev x_ref (s : XS) : (Nat → Int32) := s.2.2.2.2.2.2.1
abbrev x_isKept (s : XS) : Bool := s.2.2.2.2.2.2.2
abbrev x_set_now (s : XS) (v : ST) : XS := (v, s.2)
abbrev x_set_draft (s : XS) (v : ST) : XS := (s.1, v, s.2.2)
abbrev x_set_kept (s : XS) (v : ST) : XS := (s.1, s.2.1, v, s.2.2.2)
abbrev x_set_tape (s : XS) (v : TP) : XS := (s.1, s.2.1, s.2.2.1, v, s.2.2.2.2)
abbrev x_set_often (s : XS) (v : (Nat → Int32)) : XS := (s.1, s.2.1, s.2.2.1, s.2.2.2.1, v, s.2.2.2.2.2)
abbrev x_set_sh (s : XS) (v : (Nat → SH)) : XS := (s.1, s.2.1, s.2.2.1, s.2.2.2.1, s.2.2.2.2.1, v, s.2.2.2.2.2.2)
abbrev x_set_ref (s : XS) (v : (Nat → Int32)) : XS := (s.1, s.2.1, s.2.2.1, s.2.2.2.1, s.2.2.2.2.1, s.2.2.2.2.2.1, v, s.2.2.2.2.2.2.2)
abbrev x_set_isKept (s : XS) (v : Bool) : XS := (s.1, s.2.1, s.2.2.1, s.2.2.2.1, s.2.2.2.2.1, s.2.2.2.2.2.1, s.2.2.2.2.2.2.1, v)
abbrev MS : Type := (Nat → Int32) × (Nat → Int32) × (Nat → Int32) × (Nat → Nat → Int64) × (Nat → Int64) × (Nat → Int32) × (Nat → Int32) × (Nat → Int32) × Int32 × (Nat → Int32) × (Nat → Int32) × Int32 × (Nat → Nat → Int32) × Int32 × (Nat → Int32) × Int32 × (Nat → Int32) × Int32 × Int32 × Int32 × (Option Nat) × (Option Nat) × Int32 × Int32 × Int32 × Int32 × Int32 × (Nat → Int32) × Int32
abbrev m_shelf (s : MS) : (Nat → Int32) := s.1
abbrev m_rowSort (s : MS) : (Nat → Int32) := s.2.1
abbrev m_rowSize (s : MS) : (Nat → Int32) := s.2.2.1
abbrev m_rows (s : MS) : (Nat → Nat → Int64) := s.2.2.2.1
abbrev m_moved (s : MS) : (Nat → Int64) := s.2.2.2.2.1
abbrev m_eveKind (s : MS) : (Nat → Int32) := s.2.2.2.2.2.1
abbrev m_eveDay (s : MS) : (Nat → Int32) := s.2.2.2.2.2.2.1
abbrev m_tape (s : MS) : (Nat → Int32) := s.2.2.2.2.2.2.2.1
abbrev m_tapeSize (s : MS) : Int32 := s.2.2.2.2.2.2.2.2.1
abbrev m_refused (s : MS) : (Nat → Int32) := s.2.2.2.2.2.2.2.2.2.1
abbrev m_asked (s : MS) : (Nat → Int32) := s.2.2.2.2.2.2.2.2.2.2.1
abbrev m_notches (s : MS) : Int32 := s.2.2.2.2.2.2.2.2.2.2.2.1
abbrev m_notch (s : MS) : (Nat → Nat → Int32) := s.2.2.2.2.2.2.2.2.2.2.2.2.1
abbrev m_stones (s : MS) : Int32 := s.2.2.2.2.2.2.2.2.2.2.2.2.2.1
abbrev m_stone (s : MS) : (Nat → Int32) := s.2.2.2.2.2.2.2.2.2.2.2.2.2.2.1
abbrev m_clouds (s : MS) : Int32 := s.2.2.2.2.2.2.2.2.2.2.2.2.2.2.2.1
abbrev m_cloud (s : MS) : (Nat → Int32) := s.2.2.2.2.2.2.2.2.2.2.2.2.2.2.2.2.1
abbrev m_today (s : MS) : Int32 := s.2.2.2.2.2.2.2.2.2.2.2.2.2.2.2.2.2.1
abbrev m_looks (s : MS) : Int32 := s.2.2.2.2.2.2.2.2.2.2.2.2.2.2.2.2.2.2.1
abbrev m_seed (s : MS) : Int32 := s.2.2.2.2.2.2.2.2.2.2.2.2.2.2.2.2.2.2.2.1
abbrev m_kept (s : MS) : (Option Nat) := s.2.2.2.2.2.2.2.2.2.2.2.2.2.2.2.2.2.2.2.2.1
abbrev m_tried (s : MS) : (Option Nat) := s.2.2.2.2.2.2.2.2.2.2.2.2.2.2.2.2.2.2.2.2.2.1
abbrev m_atp (s : MS) : Int32 := s.2.2.2.2.2.2.2.2.2.2.2.2.2.2.2.2.2.2.2.2.2.2.1
abbrev m_token (s : MS) : Int32 := s.2.2.2.2.2.2.2.2.2.2.2.2.2.2.2.2.2.2.2.2.2.2.2.1
abbrev m_frm (s : MS) : Int32 := s.2.2.2.2.2.2.2.2.2.2.2.2.2.2.2.2.2.2.2.2.2.2.2.2.1
abbrev m_figures (s : MS) : Int32 := s.2.2.2.2.2.2.2.2.2.2.2.2.2.2.2.2.2.2.2.2.2.2.2.2.2.1
abbrev m_fault (s : MS) : Int32 := s.2.2.2.2.2.2.2.2.2.2.2.2.2.2.2.2.2.2.2.2.2.2.2.2.2.2.1
abbrev m_told (s : MS) : (Nat → Int32) := s.2.2.2.2.2.2.2.2.2.2.2.2.2.2.2.2.2.2.2.2.2.2.2.2.2.2.2.1
abbrev m_statements (s : MS) : Int32 := s.2.2.2.2.2.2.2.2.2.2.2.2.2.2.2.2.2.2.2.2.2.2.2.2.2.2.2.2
abbrev m_set_shelf (s : MS) (v : (Nat → Int32)) : MS := (v, s.2)
abbrev m_set_rowSort (s : MS) (v : (Nat → Int32)) : MS := (s.1, v, s.2.2)
abbrev m_set_rowSize (s : MS) (v : (Nat → Int32)) : MS := (s.1, s.2.1, v, s.2.2.2)
abbrev m_set_rows (s : MS) (v : (Nat → Nat → Int64)) : MS := (s.1, s.2.1, s.2.2.1, v, s.2.2.2.2)
abbrev m_set_moved (s : MS) (v : (Nat → Int64)) : MS := (s.1, s.2.1, s.2.2.1, s.2.2.2.1, v, s.2.2.2.2.2)
abbrev m_set_eveKind (s : MS) (v : (Nat → Int32)) : MS := (s.1, s.2.1, s.2.2.1, s.2.2.2.1, s.2.2.2.2.1, v, s.2.2.2.2.2.2)
abbrev m_set_eveDay (s : MS) (v : (Nat → Int32)) : MS := (s.1, s.2.1, s.2.2.1, s.2.2.2.1, s.2.2.2.2.1, s.2.2.2.2.2.1, v, s.2.2.2.2.2.2.2)
abbrev m_set_tape (s : MS) (v : (Nat → Int32)) : MS := (s.1, s.2.1, s.2.2.1, s.2.2.2.1, s.2.2.2.2.1, s.2.2.2.2.2.1, s.2.2.2.2.2.2.1, v, s.2.2.2.2.2.2.2.2)
abbrev m_set_tapeSize (s : MS) (v : Int32) : MS := (s.1, s.2.1, s.2.2.1, s.2.2.2.1, s.2.2.2.2.1, s.2.2.2.2.2.1, s.2.2.2.2.2.2.1, s.2.2.2.2.2.2.2.1, v, s.2.2.2.2.2.2.2.2.2)
abbrev m_set_refused (s : MS) (v : (Nat → Int32)) : MS := (s.1, s.2.1, s.2.2.1, s.2.2.2.1, s.2.2.2.2.1, s.2.2.2.2.2.1, s.2.2.2.2.2.2.1, s.2.2.2.2.2.2.2.1, s.2.2.2.2.2.2.2.2.1, v, s.2.2.2.2.2.2.2.2.2.2)
abbrev m_set_asked (s : MS) (v : (Nat → Int32)) : MS := (s.1, s.2.1, s.2.2.1, s.2.2.2.1, s.2.2.2.2.1, s.2.2.2.2.2.1, s.2.2.2.2.2.2.1, s.2.2.2.2.2.2.2.1, s.2.2.2.2.2.2.2.2.1, s.2.2.2.2.2.2.2.2.2.1, v, s.2.2.2.2.2.2.2.2.2.2.2)
abbrev m_set_notches (s : MS) (v : Int32) : MS := (s.1, s.2.1, s.2.2.1, s.2.2.2.1, s.2.2.2.2.1, s.2.2.2.2.2.1, s.2.2.2.2.2.2.1, s.2.2.2.2.2.2.2.1, s.2.2.2.2.2.2.2.2.1, s.2.2.2.2.2.2.2.2.2.1, s.2.2.2.2.2.2.2.2.2.2.1, v, s.2.2.2.2.2.2.2.2.2.2.2.2)
abbrev m_set_notch (s : MS) (v : (Nat → Nat → Int32)) : MS := (s.1, s.2.1, s.2.2.1, s.2.2.2.1, s.2.2.2.2.1, s.2.2.2.2.2.1, s.2.2.2.2.2.2.1, s.2.2.2.2.2.2.2.1, s.2.2.2.2.2.2.2.2.1, s.2.2.2.2.2.2.2.2.2.1, s.2.2.2.2.2.2.2.2.2.2.1, s.2.2.2.2.2.2.2.2.2.2.2.1, v, s.2.2.2.2.2.2.2.2.2.2.2.2.2)
abbrev m_set_stones (s : MS) (v : Int32) : MS := (s.1, s.2.1, s.2.2.1, s.2.2.2.1, s.2.2.2.2.1, s.2.2.2.2.2.1, s.2.2.2.2.2.2.1, s.2.2.2.2.2.2.2.1, s.2.2.2.2.2.2.2.2.1, s.2.2.2.2.2.2.2.2.2.1, s.2.2.2.2.2.2.2.2.2.2.1, s.2.2.2.2.2.2.2.2.2.2.2.1, s.2.2.2.2.2.2.2.2.2.2.2.2.1, v, s.2.2.2.2.2.2.2.2.2.2.2.2.2.2)
abbrev m_set_stone (s : MS) (v : (Nat → Int32)) : MS := (s.1, s.2.1, s.2.2.1, s.2.2.2.1, s.2.2.2.2.1, s.2.2.2.2.2.1, s.2.2.2.2.2.2.1, s.2.2.2.2.2.2.2.1, s.2.2.2.2.2.2.2.2.1, s.2.2.2.2.2.2.2.2.2.1, s.2.2.2.2.2.2.2.2.2.2.1, s.2.2.2.2.2.2.2.2.2.2.2.1, s.2.2.2.2.2.2.2.2.2.2.2.2.1, s.2.2.2.2.2.2.2.2.2.2.2.2.2.1, v, s.2.2.2.2.2.2.2.2.2.2.2.2.2.2.2)
abbrev m_set_clouds (s : MS) (v : Int32) : MS := (s.1, s.2.1, s.2.2.1, s.2.2.2.1, s.2.2.2.2.1, s.2.2.2.2.2.1, s.2.2.2.2.2.2.1, s.2.2.2.2.2.2.2.1, s.2.2.2.2.2.2.2.2.1, s.2.2.2.2.2.2.2.2.2.1, s.2.2.2.2.2.2.2.2.2.2.1, s.2.2.2.2.2.2.2.2.2.2.2.1, s.2.2.2.2.2.2.2.2.2.2.2.2.1, s.2.2.2.2.2.2.2.2.2.2.2.2.2.1, s.2.2.2.2.2.2.2.2.2.2.2.2.2.2.1, v, s.2.2.2.2.2.2.2.2.2.2.2.2.2.2.2.2)
abbrev m_set_cloud (s : MS) (v : (Nat → Int32)) : MS := (s.1, s.2.1, s.2.2.1, s.2.2.2.1, s.2.2.2.2.1, s.2.2.2.2.2.1, s.2.2.2.2.2.2.1, s.2.2.2.2.2.2.2.1, s.2.2.2.2.2.2.2.2.1, s.2.2.2.2.2.2.2.2.2.1, s.2.2.2.2.2.2.2.2.2.2.1, s.2.2.2.2.2.2.2.2.2.2.2.1, s.2.2.2.2.2.2.2.2.2.2.2.2.1, s.2.2.2.2.2.2.2.2.2.2.2.2.2.1, s.2.2.2.2.2.2.2.2.2.2.2.2.2.2.1, s.2.2.2.2.2.2.2.2.2.2.2.2.2.2.2.1, v, s.2.2.2.2.2.2.2.2.2.2.2.2.2.2.2.2.2)
abbrev m_set_today (s : MS) (v : Int32) : MS := (s.1, s.2.1, s.2.2.1, s.2.2.2.1, s.2.2.2.2.1, s.2.2.2.2.2.1, s.2.2.2.2.2.2.1, s.2.2.2.2.2.2.2.1, s.2.2.2.2.2.2.2.2.1, s.2.2.2.2.2.2.2.2.2.1, s.2.2.2.2.2.2.2.2.2.2.1, s.2.2.2.2.2.2.2.2.2.2.2.1, s.2.2.2.2.2.2.2.2.2.2.2.2.1, s.2.2.2.2.2.2.2.2.2.2.2.2.2.1, s.2.2.2.2.2.2.2.2.2.2.2.2.2.2.1, s.2.2.2.2.2.2.2.2.2.2.2.2.2.2.2.1, s.2.2.2.2.2.2.2.2.2.2.2.2.2.2.2.2.1, v, s.2.2.2.2.2.2.2.2.2.2.2.2.2.2.2.2.2.2)
abbrev m_set_looks (s : MS) (v : Int32) : MS := (s.1, s.2.1, s.2.2.1, s.2.2.2.1, s.2.2.2.2.1, s.2.2.2.2.2.1, s.2.2.2.2.2.2.1, s.2.2.2.2.2.2.2.1, s.2.2.2.2.2.2.2.2.1, s.2.2.2.2.2.2.2.2.2.1, s.2.2.2.2.2.2.2.2.2.2.1, s.2.2.2.2.2.2.2.2.2.2.2.1, s.2.2.2.2.2.2.2.2.2.2.2.2.1, s.2.2.2.2.2.2.2.2.2.2.2.2.2.1, s.2.2.2.2.2.2.2.2.2.2.2.2.2.2.1, s.2.2.2.2.2.2.2.2.2.2.2.2.2.2.2.1, s.2.2.2.2.2.2.2.2.2.2.2.2.2.2.2.2.1, s.2.2.2.2.2.2.2.2.2.2.2.2.2.2.2.2.2.1, v, s.2.2.2.2.2.2.2.2.2.2.2.2.2.2.2.2.2.2.2)
abbrev m_set_seed (s : MS) (v : Int32) : MS := (s.1, s.2.1, s.2.2.1, s.2.2.2.1, s.2.2.2.2.1, s.2.2.2.2.2.1, s.2.2.2.2.2.2.1, s.2.2.2.2.2.2.2.1, s.2.2.2.2.2.2.2.2.1, s.2.2.2.2.2.2.2.2.2.1, s.2.2.2.2.2.2.2.2.2.2.1, s.2.2.2.2.2.2.2.2.2.2.2.1, s.2.2.2.2.2.2.2.2.2.2.2.2.1, s.2.2.2.2.2.2.2.2.2.2.2.2.2.1, s.2.2.2.2.2.2.2.2.2.2.2.2.2.2.1, s.2.2.2.2.2.2.2.2.2.2.2.2.2.2.2.1, s.2.2.2.2.2.2.2.2.2.2.2.2.2.2.2.2.1, s.2.2.2.2.2.2.2.2.2.2.2.2.2.2.2.2.2.1, s.2.2.2.2.2.2.2.2.2.2.2.2.2.2.2.2.2.2.1, v, s.2.2.2.2.2.2.2.2.2.2.2.2.2.2.2.2.2.2.2.2)
abbrev m_set_kept (s : MS) (v : (Option Nat)) : MS := (s.1, s.2.1, s.2.2.1, s.2.2.2.1, s.2.2.2.2.1, s.2.2.2.2.2.1, s.2.2.2.2.2.2.1, s.2.2.2.2.2.2.2.1, s.2.2.2.2.2.2.2.2.1, s.2.2.2.2.2.2.2.2.2.1, s.2.2.2.2.2.2.2.2.2.2.1, s.2.2.2.2.2.2.2.2.2.2.2.1, s.2.2.2.2.2.2.2.2.2.2.2.2.1, s.2.2.2.2.2.2.2.2.2.2.2.2.2.1, s.2.2.2.2.2.2.2.2.2.2.2.2.2.2.1, s.2.2.2.2.2.2.2.2.2.2.2.2.2.2.2.1, s.2.2.2.2.2.2.2.2.2.2.2.2.2.2.2.2.1, s.2.2.2.2.2.2.2.2.2.2.2.2.2.2.2.2.2.1, s.2.2.2.2.2.2.2.2.2.2.2.2.2.2.2.2.2.2.1, s.2.2.2.2.2.2.2.2.2.2.2.2.2.2.2.2.2.2.2.1, v, s.2.2.2.2.2.2.2.2.2.2.2.2.2.2.2.2.2.2.2.2.2)
abbrev m_set_tried (s : MS) (v : (Option Nat)) : MS := (s.1, s.2.1, s.2.2.1, s.2.2.2.1, s.2.2.2.2.1, s.2.2.2.2.2.1, s.2.2.2.2.2.2.1, s.2.2.2.2.2.2.2.1, s.2.2.2.2.2.2.2.2.1, s.2.2.2.2.2.2.2.2.2.1, s.2.2.2.2.2.2.2.2.2.2.1, s.2.2.2.2.2.2.2.2.2.2.2.1, s.2.2.2.2.2.2.2.2.2.2.2.2.1, s.2.2.2.2.2.2.2.2.2.2.2.2.2.1, s.2.2.2.2.2.2.2.2.2.2.2.2.2.2.1, s.2.2.2.2.2.2.2.2.2.2.2.2.2.2.2.1, s.2.2.2.2.2.2.2.2.2.2.2.2.2.2.2.2.1, s.2.2.2.2.2.2.2.2.2.2.2.2.2.2.2.2.2.1, s.2.2.2.2.2.2.2.2.2.2.2.2.2.2.2.2.2.2.1, s.2.2.2.2.2.2.2.2.2.2.2.2.2.2.2.2.2.2.2.1, s.2.2.2.2.2.2.2.2.2.2.2.2.2.2.2.2.2.2.2.2.1, v, s.2.2.2.2.2.2.2.2.2.2.2.2.2.2.2.2.2.2.2.2.2.2)
abbrev m_set_atp (s : MS) (v : Int32) : MS := (s.1, s.2.1, s.2.2.1, s.2.2.2.1, s.2.2.2.2.1, s.2.2.2.2.2.1, s.2.2.2.2.2.2.1, s.2.2.2.2.2.2.2.1, s.2.2.2.2.2.2.2.2.1, s.2.2.2.2.2.2.2.2.2.1, s.2.2.2.2.2.2.2.2.2.2.1, s.2.2.2.2.2.2.2.2.2.2.2.1, s.2.2.2.2.2.2.2.2.2.2.2.2.1, s.2.2.2.2.2.2.2.2.2.2.2.2.2.1, s.2.2.2.2.2.2.2.2.2.2.2.2.2.2.1, s.2.2.2.2.2.2.2.2.2.2.2.2.2.2.2.1, s.2.2.2.2.2.2.2.2.2.2.2.2.2.2.2.2.1, s.2.2.2.2.2.2.2.2.2.2.2.2.2.2.2.2.2.1, s.2.2.2.2.2.2.2.2.2.2.2.2.2.2.2.2.2.2.1, s.2.2.2.2.2.2.2.2.2.2.2.2.2.2.2.2.2.2.2.1, s.2.2.2.2.2.2.2.2.2.2.2.2.2.2.2.2.2.2.2.2.1, s.2.2.2.2.2.2.2.2.2.2.2.2.2.2.2.2.2.2.2.2.2.1, v, s.2.2.2.2.2.2.2.2.2.2.2.2.2.2.2.2.2.2.2.2.2.2.2)
abbrev m_set_token (s : MS) (v : Int32) : MS := (s.1, s.2.1, s.2.2.1, s.2.2.2.1, s.2.2.2.2.1, s.2.2.2.2.2.1, s.2.2.2.2.2.2.1, s.2.2.2.2.2.2.2.1, s.2.2.2.2.2.2.2.2.1, s.2.2.2.2.2.2.2.2.2.1, s.2.2.2.2.2.2.2.2.2.2.1, s.2.2.2.2.2.2.2.2.2.2.2.1, s.2.2.2.2.2.2.2.2.2.2.2.2.1, s.2.2.2.2.2.2.2.2.2.2.2.2.2.1, s.2.2.2.2.2.2.2.2.2.2.2.2.2.2.1, s.2.2.2.2.2.2.2.2.2.2.2.2.2.2.2.1, s.2.2.2.2.2.2.2.2.2.2.2.2.2.2.2.2.1, s.2.2.2.2.2.2.2.2.2.2.2.2.2.2.2.2.2.1, s.2.2.2.2.2.2.2.2.2.2.2.2.2.2.2.2.2.2.1, s.2.2.2.2.2.2.2.2.2.2.2.2.2.2.2.2.2.2.2.1, s.2.2.2.2.2.2.2.2.2.2.2.2.2.2.2.2.2.2.2.2.1, s.2.2.2.2.2.2.2.2.2.2.2.2.2.2.2.2.2.2.2.2.2.1, s.2.2.2.2.2.2.2.2.2.2.2.2.2.2.2.2.2.2.2.2.2.2.1, v, s.2.2.2.2.2.2.2.2.2.2.2.2.2.2.2.2.2.2.2.2.2.2.2.2)
abbrev m_set_frm (s : MS) (v : Int32) : MS := (s.1, s.2.1, s.2.2.1, s.2.2.2.1, s.2.2.2.2.1, s.2.2.2.2.2.1, s.2.2.2.2.2.2.1, s.2.2.2.2.2.2.2.1, s.2.2.2.2.2.2.2.2.1, s.2.2.2.2.2.2.2.2.2.1, s.2.2.2.2.2.2.2.2.2.2.1, s.2.2.2.2.2.2.2.2.2.2.2.1, s.2.2.2.2.2.2.2.2.2.2.2.2.1, s.2.2.2.2.2.2.2.2.2.2.2.2.2.1, s.2.2.2.2.2.2.2.2.2.2.2.2.2.2.1, s.2.2.2.2.2.2.2.2.2.2.2.2.2.2.2.1, s.2.2.2.2.2.2.2.2.2.2.2.2.2.2.2.2.1, s.2.2.2.2.2.2.2.2.2.2.2.2.2.2.2.2.2.1, s.2.2.2.2.2.2.2.2.2.2.2.2.2.2.2.2.2.2.1, s.2.2.2.2.2.2.2.2.2.2.2.2.2.2.2.2.2.2.2.1, s.2.2.2.2.2.2.2.2.2.2.2.2.2.2.2.2.2.2.2.2.1, s.2.2.2.2.2.2.2.2.2.2.2.2.2.2.2.2.2.2.2.2.2.1, s.2.2.2.2.2.2.2.2.2.2.2.2.2.2.2.2.2.2.2.2.2.2.1, s.2.2.2.2.2.2.2.2.2.2.2.2.2.2.2.2.2.2.2.2.2.2.2.1, v, s.2.2.2.2.2.2.2.2.2.2.2.2.2.2.2.2.2.2.2.2.2.2.2.2.2)
abbrev m_set_figures (s : MS) (v : Int32) : MS := (s.1, s.2.1, s.2.2.1, s.2.2.2.1, s.2.2.2.2.1, s.2.2.2.2.2.1, s.2.2.2.2.2.2.1, s.2.2.2.2.2.2.2.1, s.2.2.2.2.2.2.2.2.1, s.2.2.2.2.2.2.2.2.2.1, s.2.2.2.2.2.2.2.2.2.2.1, s.2.2.2.2.2.2.2.2.2.2.2.1, s.2.2.2.2.2.2.2.2.2.2.2.2.1, s.2.2.2.2.2.2.2.2.2.2.2.2.2.1, s.2.2.2.2.2.2.2.2.2.2.2.2.2.2.1, s.2.2.2.2.2.2.2.2.2.2.2.2.2.2.2.1, s.2.2.2.2.2.2.2.2.2.2.2.2.2.2.2.2.1, s.2.2.2.2.2.2.2.2.2.2.2.2.2.2.2.2.2.1, s.2.2.2.2.2.2.2.2.2.2.2.2.2.2.2.2.2.2.1, s.2.2.2.2.2.2.2.2.2.2.2.2.2.2.2.2.2.2.2.1, s.2.2.2.2.2.2.2.2.2.2.2.2.2.2.2.2.2.2.2.2.1, s.2.2.2.2.2.2.2.2.2.2.2.2.2.2.2.2.2.2.2.2.2.1, s.2.2.2.2.2.2.2.2.2.2.2.2.2.2.2.2.2.2.2.2.2.2.1, s.2.2.2.2.2.2.2.2.2.2.2.2.2.2.2.2.2.2.2.2.2.2.2.1, s.2.2.2.2.2.2.2.2.2.2.2.2.2.2.2.2.2.2.2.2.2.2.2.2.1, v, s.2.2.2.2.2.2.2.2.2.2.2.2.2.2.2.2.2.2.2.2.2.2.2.2.2.2)
abbrev m_set_fault (s : MS) (v : Int32) : MS := (s.1, s.2.1, s.2.2.1, s.2.2.2.1, s.2.2.2.2.1, s.2.2.2.2.2.1, s.2.2.2.2.2.2.1, s.2.2.2.2.2.2.2.1, s.2.2.2.2.2.2.2.2.1, s.2.2.2.2.2.2.2.2.2.1, s.2.2.2.2.2.2.2.2.2.2.1, s.2.2.2.2.2.2.2.2.2.2.2.1, s.2.2.2.2.2.2.2.2.2.2.2.2.1, s.2.2.2.2.2.2.2.2.2.2.2.2.2.1, s.2.2.2.2.2.2.2.2.2.2.2.2.2.2.1, s.2.2.2.2.2.2.2.2.2.2.2.2.2.2.2.1, s.2.2.2.2.2.2.2.2.2.2.2.2.2.2.2.2.1, s.2.2.2.2.2.2.2.2.2.2.2.2.2.2.2.2.2.1, s.2.2.2.2.2.2.2.2.2.2.2.2.2.2.2.2.2.2.1, s.2.2.2.2.2.2.2.2.2.2.2.2.2.2.2.2.2.2.2.1, s.2.2.2.2.2.2.2.2.2.2.2.2.2.2.2.2.2.2.2.2.1, s.2.2.2.2.2.2.2.2.2.2.2.2.2.2.2.2.2.2.2.2.2.1, s.2.2.2.2.2.2.2.2.2.2.2.2.2.2.2.2.2.2.2.2.2.2.1, s.2.2.2.2.2.2.2.2.2.2.2.2.2.2.2.2.2.2.2.2.2.2.2.1, s.2.2.2.2.2.2.2.2.2.2.2.2.2.2.2.2.2.2.2.2.2.2.2.2.1, s.2.2.2.2.2.2.2.2.2.2.2.2.2.2.2.2.2.2.2.2.2.2.2.2.2.1, v, s.2.2.2.2.2.2.2.2.2.2.2.2.2.2.2.2.2.2.2.2.2.2.2.2.2.2.2)
abbrev m_set_told (s : MS) (v : (Nat → Int32)) : MS := (s.1, s.2.1, s.2.2.1, s.2.2.2.1, s.2.2.2.2.1, s.2.2.2.2.2.1, s.2.2.2.2.2.2.1, s.2.2.2.2.2.2.2.1, s.2.2.2.2.2.2.2.2.1, s.2.2.2.2.2.2.2.2.2.1, s.2.2.2.2.2.2.2.2.2.2.1, s.2.2.2.2.2.2.2.2.2.2.2.1, s.2.2.2.2.2.2.2.2.2.2.2.2.1, s.2.2.2.2.2.2.2.2.2.2.2.2.2.1, s.2.2.2.2.2.2.2.2.2.2.2.2.2.2.1, s.2.2.2.2.2.2.2.2.2.2.2.2.2.2.2.1, s.2.2.2.2.2.2.2.2.2.2.2.2.2.2.2.2.1, s.2.2.2.2.2.2.2.2.2.2.2.2.2.2.2.2.2.1, s.2.2.2.2.2.2.2.2.2.2.2.2.2.2.2.2.2.2.1, s.2.2.2.2.2.2.2.2.2.2.2.2.2.2.2.2.2.2.2.1, s.2.2.2.2.2.2.2.2.2.2.2.2.2.2.2.2.2.2.2.2.1, s.2.2.2.2.2.2.2.2.2.2.2.2.2.2.2.2.2.2.2.2.2.1, s.2.2.2.2.2.2.2.2.2.2.2.2.2.2.2.2.2.2.2.2.2.2.1, s.2.2.2.2.2.2.2.2.2.2.2.2.2.2.2.2.2.2.2.2.2.2.2.1, s.2.2.2.2.2.2.2.2.2.2.2.2.2.2.2.2.2.2.2.2.2.2.2.2.1, s.2.2.2.2.2.2.2.2.2.2.2.2.2.2.2.2.2.2.2.2.2.2.2.2.2.1, s.2.2.2.2.2.2.2.2.2.2.2.2.2.2.2.2.2.2.2.2.2.2.2.2.2.2.1, v, s.2.2.2.2.2.2.2.2.2.2.2.2.2.2.2.2.2.2.2.2.2.2.2.2.2.2.2.2)
abbrev m_set_statements (s : MS) (v : Int32) : MS := (s.1, s.2.1, s.2.2.1, s.2.2.2.1, s.2.2.2.2.1, s.2.2.2.2.2.1, s.2.2.2.2.2.2.1, s.2.2.2.2.2.2.2.1, s.2.2.2.2.2.2.2.2.1, s.2.2.2.2.2.2.2.2.2.1, s.2.2.2.2.2.2.2.2.2.2.1, s.2.2.2.2.2.2.2.2.2.2.2.1, s.2.2.2.2.2.2.2.2.2.2.2.2.1, s.2.2.2.2.2.2.2.2.2.2.2.2.2.1, s.2.2.2.2.2.2.2.2.2.2.2.2.2.2.1, s.2.2.2.2.2.2.2.2.2.2.2.2.2.2.2.1, s.2.2.2.2.2.2.2.2.2.2.2.2.2.2.2.2.1, s.2.2.2.2.2.2.2.2.2.2.2.2.2.2.2.2.2.1, s.2.2.2.2.2.2.2.2.2.2.2.2.2.2.2.2.2.2.1, s.2.2.2.2.2.2.2.2.2.2.2.2.2.2.2.2.2.2.2.1, s.2.2.2.2.2.2.2.2.2.2.2.2.2.2.2.2.2.2.2.2.1, s.2.2.2.2.2.2.2.2.2.2.2.2.2.2.2.2.2.2.2.2.2.1, s.2.2.2.2.2.2.2.2.2.2.2.2.2.2.2.2.2.2.2.2.2.2.1, s.2.2.2.2.2.2.2.2.2.2.2.2.2.2.2.2.2.2.2.2.2.2.2.1, s.2.2.2.2.2.2.2.2.2.2.2.2.2.2.2.2.2.2.2.2.2.2.2.2.1, s.2.2.2.2.2.2.2.2.2.2.2.2.2.2.2.2.2.2.2.2.2.2.2.2.2.1, s.2.2.2.2.2.2.2.2.2.2.2.2.2.2.2.2.2.2.2.2.2.2.2.2.2.2.1, s.2.2.2.2.2.2.2.2.2.2.2.2.2.2.2.2.2.2.2.2.2.2.2.2.2.2.2.1, v)
def fewW (cA : Nat → ClassId) (r : Nat) (a : Nat → Nat) (s : FW) : va_W := [(a 0, .inr (0, [.ref (a 1), .int (fw_n s)])), (a 1, .inl (cA 0, r, .inl (fw_it s)))]
def hillW (cA : Nat → ClassId) (a : Nat → Nat) (s : HL) : va_W := [(a 0, .inr (1, [.ref (a 1), .ref (a 3), .ref (a 5), .ref (a 7)])), (a 1, .inr (0, [.ref (a 2), .int (fw_n (hl_fr s))])), (a 2, .inl (cA 0, 8, .inl (fw_it (hl_fr s)))), (a 3, .inr (0, [.ref (a 4), .int (fw_n (hl_to s))])), (a 4, .inl (cA 0, 8, .inl (fw_it (hl_to s)))), (a 5, .inr (0, [.ref (a 6), .int (fw_n (hl_he s))])), (a 6, .inl (cA 0, 8, .inl (fw_it (hl_he s)))), (a 7, .inl (cA 0, 180, .inl (hl_ln s)))]
def stateW (cA : Nat → ClassId) (a : Nat → Nat) (s : ST) : va_W := [(a 0, .inr (6, [.int (st_off s), .int (st_node s), .int (st_swing s), .int (st_cloud s), .ref (a 1), .ref (a 9), .ref (a 11), .int (st_today s), .int (st_looks s), .int (st_seed s)])), (a 1, .inr (1, [.ref (a 2), .ref (a 4), .ref (a 6), .ref (a 8)])), (a 2, .inr (0, [.ref (a 3), .int (fw_n (hl_fr (st_hill s)))])), (a 3, .inl (cA 0, 8, .inl (fw_it (hl_fr (st_hill s))))), (a 4, .inr (0, [.ref (a 5), .int (fw_n (hl_to (st_hill s)))])), (a 5, .inl (cA 0, 8, .inl (fw_it (hl_to (st_hill s))))), (a 6, .inr (0, [.ref (a 7), .int (fw_n (hl_he (st_hill s)))])), (a 7, .inl (cA 0, 8, .inl (fw_it (hl_he (st_hill s))))), (a 8, .inl (cA 0, 180, .inl (hl_ln (st_hill s)))), (a 9, .inr (0, [.ref (a 10), .int (fw_n (st_stones s))])), (a 10, .inl (cA 0, 6, .inl (fw_it (st_stones s)))), (a 11, .inr (0, [.ref (a 12), .int (fw_n (st_clouds s))])), (a 12, .inl (cA 0, 8, .inl (fw_it (st_clouds s))))]
def shelfW (cA : Nat → ClassId) (a : Nat → Nat) (s : SH) : va_W := [(a 0, .inr (5, [.ref (a 1), .int (sh_content s), .int (sh_size s), .int (sh_day s)])), (a 1, .inl (cA 1, 40, .inr (.inl (sh_el s))))]
def xW (cA : Nat → ClassId) (ax : Nat → Nat) (s : XS) : va_W := [(ax 0, .inr (8, [.ref (ax 1), .ref (ax 14), .ref (ax 27), .ref (ax 40), .ref (ax 41), .ref (ax 43), .ref (ax 45), .ref (ax 62), .int (bI (x_isKept s))])), (ax 1, .inr (6, [.int (st_off (x_now s)), .int (st_node (x_now s)), .int (st_swing (x_now s)), .int (st_cloud (x_now s)), .ref (ax 2), .ref (ax 10), .ref (ax 12), .int (st_today (x_now s)), .int (st_looks (x_now s)), .int (st_seed (x_now s))])), (ax 2, .inr (1, [.ref (ax 3), .ref (ax 5), .ref (ax 7), .ref (ax 9)])), (ax 3, .inr (0, [.ref (ax 4), .int (fw_n (hl_fr (st_hill (x_now s))))])), (ax 4, .inl (cA 0, 8, .inl (fw_it (hl_fr (st_hill (x_now s)))))), (ax 5, .inr (0, [.ref (ax 6), .int (fw_n (hl_to (st_hill (x_now s))))])), (ax 6, .inl (cA 0, 8, .inl (fw_it (hl_to (st_hill (x_now s)))))), (ax 7, .inr (0, [.ref (ax 8), .int (fw_n (hl_he (st_hill (x_now s))))])), (ax 8, .inl (cA 0, 8, .inl (fw_it (hl_he (st_hill (x_now s)))))), (ax 9, .inl (cA 0, 180, .inl (hl_ln (st_hill (x_now s))))), (ax 10, .inr (0, [.ref (ax 11), .int (fw_n (st_stones (x_now s)))])), (ax 11, .inl (cA 0, 6, .inl (fw_it (st_stones (x_now s))))), (ax 12, .inr (0, [.ref (ax 13), .int (fw_n (st_clouds (x_now s)))])), (ax 13, .inl (cA 0, 8, .inl (fw_it (st_clouds (x_now s))))), (ax 14, .inr (6, [.int (st_off (x_draft s)), .int (st_node (x_draft s)), .int (st_swing (x_draft s)), .int (st_cloud (x_draft s)), .ref (ax 15), .ref (ax 23), .ref (ax 25), .int (st_today (x_draft s)), .int (st_looks (x_draft s)), .int (st_seed (x_draft s))])), (ax 15, .inr (1, [.ref (ax 16), .ref (ax 18), .ref (ax 20), .ref (ax 22)])), (ax 16, .inr (0, [.ref (ax 17), .int (fw_n (hl_fr (st_hill (x_draft s))))])), (ax 17, .inl (cA 0, 8, .inl (fw_it (hl_fr (st_hill (x_draft s)))))), (ax 18, .inr (0, [.ref (ax 19), .int (fw_n (hl_to (st_hill (x_draft s))))])), (ax 19, .inl (cA 0, 8, .inl (fw_it (hl_to (st_hill (x_draft s)))))), (ax 20, .inr (0, [.ref (ax 21), .int (fw_n (hl_he (st_hill (x_draft s))))])), (ax 21, .inl (cA 0, 8, .inl (fw_it (hl_he (st_hill (x_draft s)))))), (ax 22, .inl (cA 0, 180, .inl (hl_ln (st_hill (x_draft s))))), (ax 23, .inr (0, [.ref (ax 24), .int (fw_n (st_stones (x_draft s)))])), (ax 24, .inl (cA 0, 6, .inl (fw_it (st_stones (x_draft s))))), (ax 25, .inr (0, [.ref (ax 26), .int (fw_n (st_clouds (x_draft s)))])), (ax 26, .inl (cA 0, 8, .inl (fw_it (st_clouds (x_draft s))))), (ax 27, .inr (6, [.int (st_off (x_kept s)), .int (st_node (x_kept s)), .int (st_swing (x_kept s)), .int (st_cloud (x_kept s)), .ref (ax 28), .ref (ax 36), .ref (ax 38), .int (st_today (x_kept s)), .int (st_looks (x_kept s)), .int (st_seed (x_kept s))])), (ax 28, .inr (1, [.ref (ax 29), .ref (ax 31), .ref (ax 33), .ref (ax 35)])), (ax 29, .inr (0, [.ref (ax 30), .int (fw_n (hl_fr (st_hill (x_kept s))))])), (ax 30, .inl (cA 0, 8, .inl (fw_it (hl_fr (st_hill (x_kept s)))))), (ax 31, .inr (0, [.ref (ax 32), .int (fw_n (hl_to (st_hill (x_kept s))))])), (ax 32, .inl (cA 0, 8, .inl (fw_it (hl_to (st_hill (x_kept s)))))), (ax 33, .inr (0, [.ref (ax 34), .int (fw_n (hl_he (st_hill (x_kept s))))])), (ax 34, .inl (cA 0, 8, .inl (fw_it (hl_he (st_hill (x_kept s)))))), (ax 35, .inl (cA 0, 180, .inl (hl_ln (st_hill (x_kept s))))), (ax 36, .inr (0, [.ref (ax 37), .int (fw_n (st_stones (x_kept s)))])), (ax 37, .inl (cA 0, 6, .inl (fw_it (st_stones (x_kept s))))), (ax 38, .inr (0, [.ref (ax 39), .int (fw_n (st_clouds (x_kept s)))])), (ax 39, .inl (cA 0, 8, .inl (fw_it (st_clouds (x_kept s))))), (ax 40, .inr (2, [.ref (ax 1)])), (ax 41, .inr (7, [.ref (ax 42), .int (tp_size (x_tape s)), .int (tp_token (x_tape s)), .int (tp_start (x_tape s)), .int (tp_fin (x_tape s)), .int (tp_value (x_tape s))])), (ax 42, .inl (cA 0, 250, .inl (tp_by (x_tape s)))), (ax 43, .inr (3, [.ref (ax 44)])), (ax 44, .inl (cA 0, 181, .inl (x_often s))), (ax 45, .inl (cA 3, 8, .inr (.inr (.inr (.inr (fun j => some (ax (46+2*j)))))))), (ax 46, .inr (5, [.ref (ax 47), .int (sh_content (x_sh s 0)), .int (sh_size (x_sh s 0)), .int (sh_day (x_sh s 0))])), (ax 47, .inl (cA 1, 40, .inr (.inl (sh_el (x_sh s 0))))), (ax 48, .inr (5, [.ref (ax 49), .int (sh_content (x_sh s 1)), .int (sh_size (x_sh s 1)), .int (sh_day (x_sh s 1))])), (ax 49, .inl (cA 1, 40, .inr (.inl (sh_el (x_sh s 1))))), (ax 50, .inr (5, [.ref (ax 51), .int (sh_content (x_sh s 2)), .int (sh_size (x_sh s 2)), .int (sh_day (x_sh s 2))])), (ax 51, .inl (cA 1, 40, .inr (.inl (sh_el (x_sh s 2))))), (ax 52, .inr (5, [.ref (ax 53), .int (sh_content (x_sh s 3)), .int (sh_size (x_sh s 3)), .int (sh_day (x_sh s 3))])), (ax 53, .inl (cA 1, 40, .inr (.inl (sh_el (x_sh s 3))))), (ax 54, .inr (5, [.ref (ax 55), .int (sh_content (x_sh s 4)), .int (sh_size (x_sh s 4)), .int (sh_day (x_sh s 4))])), (ax 55, .inl (cA 1, 40, .inr (.inl (sh_el (x_sh s 4))))), (ax 56, .inr (5, [.ref (ax 57), .int (sh_content (x_sh s 5)), .int (sh_size (x_sh s 5)), .int (sh_day (x_sh s 5))])), (ax 57, .inl (cA 1, 40, .inr (.inl (sh_el (x_sh s 5))))), (ax 58, .inr (5, [.ref (ax 59), .int (sh_content (x_sh s 6)), .int (sh_size (x_sh s 6)), .int (sh_day (x_sh s 6))])), (ax 59, .inl (cA 1, 40, .inr (.inl (sh_el (x_sh s 6))))), (ax 60, .inr (5, [.ref (ax 61), .int (sh_content (x_sh s 7)), .int (sh_size (x_sh s 7)), .int (sh_day (x_sh s 7))])), (ax 61, .inl (cA 1, 40, .inr (.inl (sh_el (x_sh s 7))))), (ax 62, .inl (cA 0, 5, .inl (x_ref s)))]
def mW (cA : Nat → ClassId) (am : Nat → Nat) (s : MS) : va_W := [(am 0, .inr (9, [.ref (am 1), .ref (am 2), .ref (am 3), .ref (am 4), .ref (am 13), .ref (am 14), .ref (am 15), .ref (am 16), .int (m_tapeSize s), .ref (am 17), .ref (am 18), .int (m_notches s), .ref (am 19), .int (m_stones s), .ref (am 28), .int (m_clouds s), .ref (am 29), .int (m_today s), .int (m_looks s), .int (m_seed s), va_rf (m_kept s), va_rf (m_tried s), .int (m_atp s), .int (m_token s), .int (m_frm s), .int (m_figures s), .int (m_fault s), .ref (am 30), .int (m_statements s)])), (am 1, .inl (cA 0, 8, .inl (m_shelf s))), (am 2, .inl (cA 0, 8, .inl (m_rowSort s))), (am 3, .inl (cA 0, 8, .inl (m_rowSize s))), (am 4, .inl (cA 5, 8, .inr (.inr (.inr (.inr (fun j => some (am (5+j)))))))), (am 5, .inl (cA 1, 40, .inr (.inl (m_rows s 0)))), (am 6, .inl (cA 1, 40, .inr (.inl (m_rows s 1)))), (am 7, .inl (cA 1, 40, .inr (.inl (m_rows s 2)))), (am 8, .inl (cA 1, 40, .inr (.inl (m_rows s 3)))), (am 9, .inl (cA 1, 40, .inr (.inl (m_rows s 4)))), (am 10, .inl (cA 1, 40, .inr (.inl (m_rows s 5)))), (am 11, .inl (cA 1, 40, .inr (.inl (m_rows s 6)))), (am 12, .inl (cA 1, 40, .inr (.inl (m_rows s 7)))), (am 13, .inl (cA 1, 40, .inr (.inl (m_moved s)))), (am 14, .inl (cA 0, 8, .inl (m_eveKind s))), (am 15, .inl (cA 0, 8, .inl (m_eveDay s))), (am 16, .inl (cA 0, 250, .inl (m_tape s))), (am 17, .inl (cA 0, 8, .inl (m_refused s))), (am 18, .inl (cA 0, 4, .inl (m_asked s))), (am 19, .inl (cA 4, 8, .inr (.inr (.inr (.inr (fun j => some (am (20+j)))))))), (am 20, .inl (cA 0, 3, .inl (m_notch s 0))), (am 21, .inl (cA 0, 3, .inl (m_notch s 1))), (am 22, .inl (cA 0, 3, .inl (m_notch s 2))), (am 23, .inl (cA 0, 3, .inl (m_notch s 3))), (am 24, .inl (cA 0, 3, .inl (m_notch s 4))), (am 25, .inl (cA 0, 3, .inl (m_notch s 5))), (am 26, .inl (cA 0, 3, .inl (m_notch s 6))), (am 27, .inl (cA 0, 3, .inl (m_notch s 7))), (am 28, .inl (cA 0, 6, .inl (m_stone s))), (am 29, .inl (cA 0, 8, .inl (m_cloud s))), (am 30, .inl (cA 0, 3, .inl (m_told s)))]
theorem xp_0 (cA : Nat → ClassId) (ax : Nat → Nat) (s : XS) : (xW cA ax s)[0]? = some (ax 0, .inr (8, [.ref (ax 1), .ref (ax 14), .ref (ax 27), .ref (ax 40), .ref (ax 41), .ref (ax 43), .ref (ax 45), .ref (ax 62), .int (bI (x_isKept s))])) := rfl
theorem xp_1 (cA : Nat → ClassId) (ax : Nat → Nat) (s : XS) : (xW cA ax s)[1]? = some (ax 1, .inr (6, [.int (st_off (x_now s)), .int (st_node (x_now s)), .int (st_swing (x_now s)), .int (st_cloud (x_now s)), .ref (ax 2), .ref (ax 10), .ref (ax 12), .int (st_today (x_now s)), .int (st_looks (x_now s)), .int (st_seed (x_now s))])) := rfl
theorem xp_2 (cA : Nat → ClassId) (ax : Nat → Nat) (s : XS) : (xW cA ax s)[2]? = some (ax 2, .inr (1, [.ref (ax 3), .ref (ax 5), .ref (ax 7), .ref (ax 9)])) := rfl
theorem xp_3 (cA : Nat → ClassId) (ax : Nat → Nat) (s : XS) : (xW cA ax s)[3]? = some (ax 3, .inr (0, [.ref (ax 4), .int (fw_n (hl_fr (st_hill (x_now s))))])) := rfl
theorem xp_4 (cA : Nat → ClassId) (ax : Nat → Nat) (s : XS) : (xW cA ax s)[4]? = some (ax 4, .inl (cA 0, 8, .inl (fw_it (hl_fr (st_hill (x_now s)))))) := rfl
theorem xp_5 (cA : Nat → ClassId) (ax : Nat → Nat) (s : XS) : (xW cA ax s)[5]? = some (ax 5, .inr (0, [.ref (ax 6), .int (fw_n (hl_to (st_hill (x_now s))))])) := rfl
theorem xp_6 (cA : Nat → ClassId) (ax : Nat → Nat) (s : XS) : (xW cA ax s)[6]? = some (ax 6, .inl (cA 0, 8, .inl (fw_it (hl_to (st_hill (x_now s)))))) := rfl
theorem xp_7 (cA : Nat → ClassId) (ax : Nat → Nat) (s : XS) : (xW cA ax s)[7]? = some (ax 7, .inr (0, [.ref (ax 8), .int (fw_n (hl_he (st_hill (x_now s))))])) := rfl
theorem xp_8 (cA : Nat → ClassId) (ax : Nat → Nat) (s : XS) : (xW cA ax s)[8]? = some (ax 8, .inl (cA 0, 8, .inl (fw_it (hl_he (st_hill (x_now s)))))) := rfl
theorem xp_9 (cA : Nat → ClassId) (ax : Nat → Nat) (s : XS) : (xW cA ax s)[9]? = some (ax 9, .inl (cA 0, 180, .inl (hl_ln (st_hill (x_now s))))) := rfl
theorem xp_10 (cA : Nat → ClassId) (ax : Nat → Nat) (s : XS) : (xW cA ax s)[10]? = some (ax 10, .inr (0, [.ref (ax 11), .int (fw_n (st_stones (x_now s)))])) := rfl
theorem xp_11 (cA : Nat → ClassId) (ax : Nat → Nat) (s : XS) : (xW cA ax s)[11]? = some (ax 11, .inl (cA 0, 6, .inl (fw_it (st_stones (x_now s))))) := rfl
theorem xp_12 (cA : Nat → ClassId) (ax : Nat → Nat) (s : XS) : (xW cA ax s)[12]? = some (ax 12, .inr (0, [.ref (ax 13), .int (fw_n (st_clouds (x_now s)))])) := rfl
theorem xp_13 (cA : Nat → ClassId) (ax : Nat → Nat) (s : XS) : (xW cA ax s)[13]? = some (ax 13, .inl (cA 0, 8, .inl (fw_it (st_clouds (x_now s))))) := rfl
theorem xp_14 (cA : Nat → ClassId) (ax : Nat → Nat) (s : XS) : (xW cA ax s)[14]? = some (ax 14, .inr (6, [.int (st_off (x_draft s)), .int (st_node (x_draft s)), .int (st_swing (x_draft s)), .int (st_cloud (x_draft s)), .ref (ax 15), .ref (ax 23), .ref (ax 25), .int (st_today (x_draft s)), .int (st_looks (x_draft s)), .int (st_seed (x_draft s))])) := rfl
theorem xp_15 (cA : Nat → ClassId) (ax : Nat → Nat) (s : XS) : (xW cA ax s)[15]? = some (ax 15, .inr (1, [.ref (ax 16), .ref (ax 18), .ref (ax 20), .ref (ax 22)])) := rfl
theorem xp_16 (cA : Nat → ClassId) (ax : Nat → Nat) (s : XS) : (xW cA ax s)[16]? = some (ax 16, .inr (0, [.ref (ax 17), .int (fw_n (hl_fr (st_hill (x_draft s))))])) := rfl
theorem xp_17 (cA : Nat → ClassId) (ax : Nat → Nat) (s : XS) : (xW cA ax s)[17]? = some (ax 17, .inl (cA 0, 8, .inl (fw_it (hl_fr (st_hill (x_draft s)))))) := rfl
theorem xp_18 (cA : Nat → ClassId) (ax : Nat → Nat) (s : XS) : (xW cA ax s)[18]? = some (ax 18, .inr (0, [.ref (ax 19), .int (fw_n (hl_to (st_hill (x_draft s))))])) := rfl
theorem xp_19 (cA : Nat → ClassId) (ax : Nat → Nat) (s : XS) : (xW cA ax s)[19]? = some (ax 19, .inl (cA 0, 8, .inl (fw_it (hl_to (st_hill (x_draft s)))))) := rfl
theorem xp_20 (cA : Nat → ClassId) (ax : Nat → Nat) (s : XS) : (xW cA ax s)[20]? = some (ax 20, .inr (0, [.ref (ax 21), .int (fw_n (hl_he (st_hill (x_draft s))))])) := rfl
theorem xp_21 (cA : Nat → ClassId) (ax : Nat → Nat) (s : XS) : (xW cA ax s)[21]? = some (ax 21, .inl (cA 0, 8, .inl (fw_it (hl_he (st_hill (x_draft s)))))) := rfl
theorem xp_22 (cA : Nat → ClassId) (ax : Nat → Nat) (s : XS) : (xW cA ax s)[22]? = some (ax 22, .inl (cA 0, 180, .inl (hl_ln (st_hill (x_draft s))))) := rfl
theorem xp_23 (cA : Nat → ClassId) (ax : Nat → Nat) (s : XS) : (xW cA ax s)[23]? = some (ax 23, .inr (0, [.ref (ax 24), .int (fw_n (st_stones (x_draft s)))])) := rfl
theorem xp_24 (cA : Nat → ClassId) (ax : Nat → Nat) (s : XS) : (xW cA ax s)[24]? = some (ax 24, .inl (cA 0, 6, .inl (fw_it (st_stones (x_draft s))))) := rfl
theorem xp_25 (cA : Nat → ClassId) (ax : Nat → Nat) (s : XS) : (xW cA ax s)[25]? = some (ax 25, .inr (0, [.ref (ax 26), .int (fw_n (st_clouds (x_draft s)))])) := rfl
theorem xp_26 (cA : Nat → ClassId) (ax : Nat → Nat) (s : XS) : (xW cA ax s)[26]? = some (ax 26, .inl (cA 0, 8, .inl (fw_it (st_clouds (x_draft s))))) := rfl
theorem xp_27 (cA : Nat → ClassId) (ax : Nat → Nat) (s : XS) : (xW cA ax s)[27]? = some (ax 27, .inr (6, [.int (st_off (x_kept s)), .int (st_node (x_kept s)), .int (st_swing (x_kept s)), .int (st_cloud (x_kept s)), .ref (ax 28), .ref (ax 36), .ref (ax 38), .int (st_today (x_kept s)), .int (st_looks (x_kept s)), .int (st_seed (x_kept s))])) := rfl
theorem xp_28 (cA : Nat → ClassId) (ax : Nat → Nat) (s : XS) : (xW cA ax s)[28]? = some (ax 28, .inr (1, [.ref (ax 29), .ref (ax 31), .ref (ax 33), .ref (ax 35)])) := rfl
theorem xp_29 (cA : Nat → ClassId) (ax : Nat → Nat) (s : XS) : (xW cA ax s)[29]? = some (ax 29, .inr (0, [.ref (ax 30), .int (fw_n (hl_fr (st_hill (x_kept s))))])) := rfl
theorem xp_30 (cA : Nat → ClassId) (ax : Nat → Nat) (s : XS) : (xW cA ax s)[30]? = some (ax 30, .inl (cA 0, 8, .inl (fw_it (hl_fr (st_hill (x_kept s)))))) := rfl
theorem xp_31 (cA : Nat → ClassId) (ax : Nat → Nat) (s : XS) : (xW cA ax s)[31]? = some (ax 31, .inr (0, [.ref (ax 32), .int (fw_n (hl_to (st_hill (x_kept s))))])) := rfl
theorem xp_32 (cA : Nat → ClassId) (ax : Nat → Nat) (s : XS) : (xW cA ax s)[32]? = some (ax 32, .inl (cA 0, 8, .inl (fw_it (hl_to (st_hill (x_kept s)))))) := rfl
theorem xp_33 (cA : Nat → ClassId) (ax : Nat → Nat) (s : XS) : (xW cA ax s)[33]? = some (ax 33, .inr (0, [.ref (ax 34), .int (fw_n (hl_he (st_hill (x_kept s))))])) := rfl
theorem xp_34 (cA : Nat → ClassId) (ax : Nat → Nat) (s : XS) : (xW cA ax s)[34]? = some (ax 34, .inl (cA 0, 8, .inl (fw_it (hl_he (st_hill (x_kept s)))))) := rfl
theorem xp_35 (cA : Nat → ClassId) (ax : Nat → Nat) (s : XS) : (xW cA ax s)[35]? = some (ax 35, .inl (cA 0, 180, .inl (hl_ln (st_hill (x_kept s))))) := rfl
theorem xp_36 (cA : Nat → ClassId) (ax : Nat → Nat) (s : XS) : (xW cA ax s)[36]? = some (ax 36, .inr (0, [.ref (ax 37), .int (fw_n (st_stones (x_kept s)))])) := rfl
theorem xp_37 (cA : Nat → ClassId) (ax : Nat → Nat) (s : XS) : (xW cA ax s)[37]? = some (ax 37, .inl (cA 0, 6, .inl (fw_it (st_stones (x_kept s))))) := rfl
theorem xp_38 (cA : Nat → ClassId) (ax : Nat → Nat) (s : XS) : (xW cA ax s)[38]? = some (ax 38, .inr (0, [.ref (ax 39), .int (fw_n (st_clouds (x_kept s)))])) := rfl
theorem xp_39 (cA : Nat → ClassId) (ax : Nat → Nat) (s : XS) : (xW cA ax s)[39]? = some (ax 39, .inl (cA 0, 8, .inl (fw_it (st_clouds (x_kept s))))) := rfl
theorem xp_40 (cA : Nat → ClassId) (ax : Nat → Nat) (s : XS) : (xW cA ax s)[40]? = some (ax 40, .inr (2, [.ref (ax 1)])) := rfl
theorem xp_41 (cA : Nat → ClassId) (ax : Nat → Nat) (s : XS) : (xW cA ax s)[41]? = some (ax 41, .inr (7, [.ref (ax 42), .int (tp_size (x_tape s)), .int (tp_token (x_tape s)), .int (tp_start (x_tape s)), .int (tp_fin (x_tape s)), .int (tp_value (x_tape s))])) := rfl
theorem xp_42 (cA : Nat → ClassId) (ax : Nat → Nat) (s : XS) : (xW cA ax s)[42]? = some (ax 42, .inl (cA 0, 250, .inl (tp_by (x_tape s)))) := rfl
theorem xp_43 (cA : Nat → ClassId) (ax : Nat → Nat) (s : XS) : (xW cA ax s)[43]? = some (ax 43, .inr (3, [.ref (ax 44)])) := rfl
theorem xp_44 (cA : Nat → ClassId) (ax : Nat → Nat) (s : XS) : (xW cA ax s)[44]? = some (ax 44, .inl (cA 0, 181, .inl (x_often s))) := rfl
theorem xp_45 (cA : Nat → ClassId) (ax : Nat → Nat) (s : XS) : (xW cA ax s)[45]? = some (ax 45, .inl (cA 3, 8, .inr (.inr (.inr (.inr (fun j => some (ax (46+2*j)))))))) := rfl
theorem xp_46 (cA : Nat → ClassId) (ax : Nat → Nat) (s : XS) : (xW cA ax s)[46]? = some (ax 46, .inr (5, [.ref (ax 47), .int (sh_content (x_sh s 0)), .int (sh_size (x_sh s 0)), .int (sh_day (x_sh s 0))])) := rfl
theorem xp_47 (cA : Nat → ClassId) (ax : Nat → Nat) (s : XS) : (xW cA ax s)[47]? = some (ax 47, .inl (cA 1, 40, .inr (.inl (sh_el (x_sh s 0))))) := rfl
theorem xp_48 (cA : Nat → ClassId) (ax : Nat → Nat) (s : XS) : (xW cA ax s)[48]? = some (ax 48, .inr (5, [.ref (ax 49), .int (sh_content (x_sh s 1)), .int (sh_size (x_sh s 1)), .int (sh_day (x_sh s 1))])) := rfl
theorem xp_49 (cA : Nat → ClassId) (ax : Nat → Nat) (s : XS) : (xW cA ax s)[49]? = some (ax 49, .inl (cA 1, 40, .inr (.inl (sh_el (x_sh s 1))))) := rfl
theorem xp_50 (cA : Nat → ClassId) (ax : Nat → Nat) (s : XS) : (xW cA ax s)[50]? = some (ax 50, .inr (5, [.ref (ax 51), .int (sh_content (x_sh s 2)), .int (sh_size (x_sh s 2)), .int (sh_day (x_sh s 2))])) := rfl
theorem xp_51 (cA : Nat → ClassId) (ax : Nat → Nat) (s : XS) : (xW cA ax s)[51]? = some (ax 51, .inl (cA 1, 40, .inr (.inl (sh_el (x_sh s 2))))) := rfl
theorem xp_52 (cA : Nat → ClassId) (ax : Nat → Nat) (s : XS) : (xW cA ax s)[52]? = some (ax 52, .inr (5, [.ref (ax 53), .int (sh_content (x_sh s 3)), .int (sh_size (x_sh s 3)), .int (sh_day (x_sh s 3))])) := rfl
theorem xp_53 (cA : Nat → ClassId) (ax : Nat → Nat) (s : XS) : (xW cA ax s)[53]? = some (ax 53, .inl (cA 1, 40, .inr (.inl (sh_el (x_sh s 3))))) := rfl
theorem xp_54 (cA : Nat → ClassId) (ax : Nat → Nat) (s : XS) : (xW cA ax s)[54]? = some (ax 54, .inr (5, [.ref (ax 55), .int (sh_content (x_sh s 4)), .int (sh_size (x_sh s 4)), .int (sh_day (x_sh s 4))])) := rfl
theorem xp_55 (cA : Nat → ClassId) (ax : Nat → Nat) (s : XS) : (xW cA ax s)[55]? = some (ax 55, .inl (cA 1, 40, .inr (.inl (sh_el (x_sh s 4))))) := rfl
theorem xp_56 (cA : Nat → ClassId) (ax : Nat → Nat) (s : XS) : (xW cA ax s)[56]? = some (ax 56, .inr (5, [.ref (ax 57), .int (sh_content (x_sh s 5)), .int (sh_size (x_sh s 5)), .int (sh_day (x_sh s 5))])) := rfl
theorem xp_57 (cA : Nat → ClassId) (ax : Nat → Nat) (s : XS) : (xW cA ax s)[57]? = some (ax 57, .inl (cA 1, 40, .inr (.inl (sh_el (x_sh s 5))))) := rfl
theorem xp_58 (cA : Nat → ClassId) (ax : Nat → Nat) (s : XS) : (xW cA ax s)[58]? = some (ax 58, .inr (5, [.ref (ax 59), .int (sh_content (x_sh s 6)), .int (sh_size (x_sh s 6)), .int (sh_day (x_sh s 6))])) := rfl
theorem xp_59 (cA : Nat → ClassId) (ax : Nat → Nat) (s : XS) : (xW cA ax s)[59]? = some (ax 59, .inl (cA 1, 40, .inr (.inl (sh_el (x_sh s 6))))) := rfl
theorem xp_60 (cA : Nat → ClassId) (ax : Nat → Nat) (s : XS) : (xW cA ax s)[60]? = some (ax 60, .inr (5, [.ref (ax 61), .int (sh_content (x_sh s 7)), .int (sh_size (x_sh s 7)), .int (sh_day (x_sh s 7))])) := rfl
theorem xp_61 (cA : Nat → ClassId) (ax : Nat → Nat) (s : XS) : (xW cA ax s)[61]? = some (ax 61, .inl (cA 1, 40, .inr (.inl (sh_el (x_sh s 7))))) := rfl
theorem xp_62 (cA : Nat → ClassId) (ax : Nat → Nat) (s : XS) : (xW cA ax s)[62]? = some (ax 62, .inl (cA 0, 5, .inl (x_ref s))) := rfl
theorem xp_len (cA : Nat → ClassId) (ax : Nat → Nat) (s : XS) : (xW cA ax s).length = 63 := rfl
theorem mp_0 (cA : Nat → ClassId) (am : Nat → Nat) (s : MS) : (mW cA am s)[0]? = some (am 0, .inr (9, [.ref (am 1), .ref (am 2), .ref (am 3), .ref (am 4), .ref (am 13), .ref (am 14), .ref (am 15), .ref (am 16), .int (m_tapeSize s), .ref (am 17), .ref (am 18), .int (m_notches s), .ref (am 19), .int (m_stones s), .ref (am 28), .int (m_clouds s), .ref (am 29), .int (m_today s), .int (m_looks s), .int (m_seed s), va_rf (m_kept s), va_rf (m_tried s), .int (m_atp s), .int (m_token s), .int (m_frm s), .int (m_figures s), .int (m_fault s), .ref (am 30), .int (m_statements s)])) := rfl
theorem mp_1 (cA : Nat → ClassId) (am : Nat → Nat) (s : MS) : (mW cA am s)[1]? = some (am 1, .inl (cA 0, 8, .inl (m_shelf s))) := rfl
theorem mp_2 (cA : Nat → ClassId) (am : Nat → Nat) (s : MS) : (mW cA am s)[2]? = some (am 2, .inl (cA 0, 8, .inl (m_rowSort s))) := rfl
theorem mp_3 (cA : Nat → ClassId) (am : Nat → Nat) (s : MS) : (mW cA am s)[3]? = some (am 3, .inl (cA 0, 8, .inl (m_rowSize s))) := rfl
theorem mp_4 (cA : Nat → ClassId) (am : Nat → Nat) (s : MS) : (mW cA am s)[4]? = some (am 4, .inl (cA 5, 8, .inr (.inr (.inr (.inr (fun j => some (am (5+j)))))))) := rfl
theorem mp_5 (cA : Nat → ClassId) (am : Nat → Nat) (s : MS) : (mW cA am s)[5]? = some (am 5, .inl (cA 1, 40, .inr (.inl (m_rows s 0)))) := rfl
theorem mp_6 (cA : Nat → ClassId) (am : Nat → Nat) (s : MS) : (mW cA am s)[6]? = some (am 6, .inl (cA 1, 40, .inr (.inl (m_rows s 1)))) := rfl
theorem mp_7 (cA : Nat → ClassId) (am : Nat → Nat) (s : MS) : (mW cA am s)[7]? = some (am 7, .inl (cA 1, 40, .inr (.inl (m_rows s 2)))) := rfl
theorem mp_8 (cA : Nat → ClassId) (am : Nat → Nat) (s : MS) : (mW cA am s)[8]? = some (am 8, .inl (cA 1, 40, .inr (.inl (m_rows s 3)))) := rfl
theorem mp_9 (cA : Nat → ClassId) (am : Nat → Nat) (s : MS) : (mW cA am s)[9]? = some (am 9, .inl (cA 1, 40, .inr (.inl (m_rows s 4)))) := rfl
theorem mp_10 (cA : Nat → ClassId) (am : Nat → Nat) (s : MS) : (mW cA am s)[10]? = some (am 10, .inl (cA 1, 40, .inr (.inl (m_rows s 5)))) := rfl
theorem mp_11 (cA : Nat → ClassId) (am : Nat → Nat) (s : MS) : (mW cA am s)[11]? = some (am 11, .inl (cA 1, 40, .inr (.inl (m_rows s 6)))) := rfl
theorem mp_12 (cA : Nat → ClassId) (am : Nat → Nat) (s : MS) : (mW cA am s)[12]? = some (am 12, .inl (cA 1, 40, .inr (.inl (m_rows s 7)))) := rfl
theorem mp_13 (cA : Nat → ClassId) (am : Nat → Nat) (s : MS) : (mW cA am s)[13]? = some (am 13, .inl (cA 1, 40, .inr (.inl (m_moved s)))) := rfl
theorem mp_14 (cA : Nat → ClassId) (am : Nat → Nat) (s : MS) : (mW cA am s)[14]? = some (am 14, .inl (cA 0, 8, .inl (m_eveKind s))) := rfl
theorem mp_15 (cA : Nat → ClassId) (am : Nat → Nat) (s : MS) : (mW cA am s)[15]? = some (am 15, .inl (cA 0, 8, .inl (m_eveDay s))) := rfl
theorem mp_16 (cA : Nat → ClassId) (am : Nat → Nat) (s : MS) : (mW cA am s)[16]? = some (am 16, .inl (cA 0, 250, .inl (m_tape s))) := rfl
theorem mp_17 (cA : Nat → ClassId) (am : Nat → Nat) (s : MS) : (mW cA am s)[17]? = some (am 17, .inl (cA 0, 8, .inl (m_refused s))) := rfl
theorem mp_18 (cA : Nat → ClassId) (am : Nat → Nat) (s : MS) : (mW cA am s)[18]? = some (am 18, .inl (cA 0, 4, .inl (m_asked s))) := rfl
theorem mp_19 (cA : Nat → ClassId) (am : Nat → Nat) (s : MS) : (mW cA am s)[19]? = some (am 19, .inl (cA 4, 8, .inr (.inr (.inr (.inr (fun j => some (am (20+j)))))))) := rfl
theorem mp_20 (cA : Nat → ClassId) (am : Nat → Nat) (s : MS) : (mW cA am s)[20]? = some (am 20, .inl (cA 0, 3, .inl (m_notch s 0))) := rfl
theorem mp_21 (cA : Nat → ClassId) (am : Nat → Nat) (s : MS) : (mW cA am s)[21]? = some (am 21, .inl (cA 0, 3, .inl (m_notch s 1))) := rfl
theorem mp_22 (cA : Nat → ClassId) (am : Nat → Nat) (s : MS) : (mW cA am s)[22]? = some (am 22, .inl (cA 0, 3, .inl (m_notch s 2))) := rfl
theorem mp_23 (cA : Nat → ClassId) (am : Nat → Nat) (s : MS) : (mW cA am s)[23]? = some (am 23, .inl (cA 0, 3, .inl (m_notch s 3))) := rfl
theorem mp_24 (cA : Nat → ClassId) (am : Nat → Nat) (s : MS) : (mW cA am s)[24]? = some (am 24, .inl (cA 0, 3, .inl (m_notch s 4))) := rfl
theorem mp_25 (cA : Nat → ClassId) (am : Nat → Nat) (s : MS) : (mW cA am s)[25]? = some (am 25, .inl (cA 0, 3, .inl (m_notch s 5))) := rfl
theorem mp_26 (cA : Nat → ClassId) (am : Nat → Nat) (s : MS) : (mW cA am s)[26]? = some (am 26, .inl (cA 0, 3, .inl (m_notch s 6))) := rfl
theorem mp_27 (cA : Nat → ClassId) (am : Nat → Nat) (s : MS) : (mW cA am s)[27]? = some (am 27, .inl (cA 0, 3, .inl (m_notch s 7))) := rfl
theorem mp_28 (cA : Nat → ClassId) (am : Nat → Nat) (s : MS) : (mW cA am s)[28]? = some (am 28, .inl (cA 0, 6, .inl (m_stone s))) := rfl
theorem mp_29 (cA : Nat → ClassId) (am : Nat → Nat) (s : MS) : (mW cA am s)[29]? = some (am 29, .inl (cA 0, 8, .inl (m_cloud s))) := rfl
theorem mp_30 (cA : Nat → ClassId) (am : Nat → Nat) (s : MS) : (mW cA am s)[30]? = some (am 30, .inl (cA 0, 3, .inl (m_told s))) := rfl
theorem mp_len (cA : Nat → ClassId) (am : Nat → Nat) (s : MS) : (mW cA am s).length = 31 := rfl
theorem xp_sh (cA : Nat → ClassId) (ax : Nat → Nat) (s : XS) : ∀ (k : Nat), k < 8 → (xW cA ax s)[46+2*k]? = some (ax (46+2*k), .inr (5, [.ref (ax (46+2*k+1)), .int (sh_content (x_sh s k)), .int (sh_size (x_sh s k)), .int (sh_day (x_sh s k))])) := fun k hk => match k, hk with | 0, _ => rfl | 1, _ => rfl | 2, _ => rfl | 3, _ => rfl | 4, _ => rfl | 5, _ => rfl | 6, _ => rfl | 7, _ => rfl | k + 8, h => absurd h (by omega)
theorem xp_se (cA : Nat → ClassId) (ax : Nat → Nat) (s : XS) : ∀ (k : Nat), k < 8 → (xW cA ax s)[46+2*k+1]? = some (ax (46+2*k+1), .inl (cA 1, 40, .inr (.inl (sh_el (x_sh s k))))) := fun k hk => match k, hk with | 0, _ => rfl | 1, _ => rfl | 2, _ => rfl | 3, _ => rfl | 4, _ => rfl | 5, _ => rfl | 6, _ => rfl | 7, _ => rfl | k + 8, h => absurd h (by omega)
theorem mp_row (cA : Nat → ClassId) (am : Nat → Nat) (s : MS) : ∀ (k : Nat), k < 8 → (mW cA am s)[5+k]? = some (am (5+k), .inl (cA 1, 40, .inr (.inl (m_rows s k)))) := fun k hk => match k, hk with | 0, _ => rfl | 1, _ => rfl | 2, _ => rfl | 3, _ => rfl | 4, _ => rfl | 5, _ => rfl | 6, _ => rfl | 7, _ => rfl | k + 8, h => absurd h (by omega)
theorem mp_notch (cA : Nat → ClassId) (am : Nat → Nat) (s : MS) : ∀ (k : Nat), k < 8 → (mW cA am s)[20+k]? = some (am (20+k), .inl (cA 0, 3, .inl (m_notch s k))) := fun k hk => match k, hk with | 0, _ => rfl | 1, _ => rfl | 2, _ => rfl | 3, _ => rfl | 4, _ => rfl | 5, _ => rfl | 6, _ => rfl | 7, _ => rfl | k + 8, h => absurd h (by omega)
theorem ms_row (cA : Nat → ClassId) (am : Nat → Nat) (s : MS) (g : Nat → Int64) : ∀ (k : Nat), k < 8 → (mW cA am s).set (5+k) (am (5+k), .inl (cA 1, 40, .inr (.inl g))) = mW cA am (m_set_rows s (va_up (m_rows s) k g)) := fun k hk => match k, hk with | 0, _ => rfl | 1, _ => rfl | 2, _ => rfl | 3, _ => rfl | 4, _ => rfl | 5, _ => rfl | 6, _ => rfl | 7, _ => rfl | k + 8, h => absurd h (by omega)
theorem ms_notch (cA : Nat → ClassId) (am : Nat → Nat) (s : MS) (g : Nat → Int32) : ∀ (k : Nat), k < 8 → (mW cA am s).set (20+k) (am (20+k), .inl (cA 0, 3, .inl g)) = mW cA am (m_set_notch s (va_up (m_notch s) k g)) := fun k hk => match k, hk with | 0, _ => rfl | 1, _ => rfl | 2, _ => rfl | 3, _ => rfl | 4, _ => rfl | 5, _ => rfl | 6, _ => rfl | 7, _ => rfl | k + 8, h => absurd h (by omega)
theorem jc_sh (cA : Nat → ClassId) (ax : Nat → Nat) (s : XS) : ∀ (k : Nat), k < 8 → [46+2*k, 46+2*k+1].map (fun i => (xW cA ax s)[i]?) = (shelfW cA (fun i => ax (46+2*k+i)) (x_sh s k)).map some := fun k hk => match k, hk with | 0, _ => rfl | 1, _ => rfl | 2, _ => rfl | 3, _ => rfl | 4, _ => rfl | 5, _ => rfl | 6, _ => rfl | 7, _ => rfl | k + 8, h => absurd h (by omega)
theorem js_sh (cA : Nat → ClassId) (ax : Nat → Nat) (s : XS) (g : SH) : ∀ (k : Nat), k < 8 → putAll (xW cA ax s) [46+2*k, 46+2*k+1] (shelfW cA (fun i => ax (46+2*k+i)) g) = xW cA ax (x_set_sh s (va_up (x_sh s) k g)) := fun k hk => match k, hk with | 0, _ => rfl | 1, _ => rfl | 2, _ => rfl | 3, _ => rfl | 4, _ => rfl | 5, _ => rfl | 6, _ => rfl | 7, _ => rfl | k + 8, h => absurd h (by omega)
theorem pg_sh {D : va_G} {H : Heap} {cA : Nat → ClassId} {ax : Nat → Nat} {s : XS} {k : Nat} (hk : k < 8) (hP : va_P D vwCl (xW cA ax s) H) : va_P D vwCl (shelfW cA (fun i => ax (46+2*k+i)) (x_sh s k)) H := selP hP (jc_sh cA ax s k hk)
theorem jc_sh2 (cA : Nat → ClassId) (ax : Nat → Nat) (s : XS) (k1 k2 : Nat) (h1 : k1 < 8) (h2 : k2 < 8) : [46+2*k1, 46+2*k1+1, 46+2*k2, 46+2*k2+1].map (fun i => (xW cA ax s)[i]?) = ((shelfW cA (fun i => ax (46+2*k1+i)) (x_sh s k1)) ++ (shelfW cA (fun i => ax (46+2*k2+i)) (x_sh s k2))).map some := by
  show [(xW cA ax s)[46+2*k1]?, (xW cA ax s)[46+2*k1+1]?, (xW cA ax s)[46+2*k2]?, (xW cA ax s)[46+2*k2+1]?] = _
  rw [xp_sh cA ax s k1 h1, xp_se cA ax s k1 h1, xp_sh cA ax s k2 h2, xp_se cA ax s k2 h2]
  rfl
theorem js_sh2 (cA : Nat → ClassId) (ax : Nat → Nat) (s : XS) (k1 k2 : Nat) (g : SH) (h1 : k1 < 8) (h2 : k2 < 8) (hn : ¬ k1 = k2) : putAll (xW cA ax s) [46+2*k1, 46+2*k1+1, 46+2*k2, 46+2*k2+1] ((shelfW cA (fun i => ax (46+2*k1+i)) g) ++ (shelfW cA (fun i => ax (46+2*k2+i)) (x_sh s k2))) = xW cA ax (x_set_sh s (va_up (x_sh s) k1 g)) := by
  have e := putAll_app [46+2*k1, 46+2*k1+1] [46+2*k2, 46+2*k2+1] (shelfW cA (fun i => ax (46+2*k1+i)) g) (shelfW cA (fun i => ax (46+2*k2+i)) (x_sh s k2)) (xW cA ax s) rfl
  have e1 := js_sh cA ax s g k1 h1
  have e2 := js_sh cA ax (x_set_sh s (va_up (x_sh s) k1 g)) (x_sh s k2) k2 h2
  refine e.trans ?_
  rw [e1, e2]
  have e3 : va_up (va_up (x_sh s) k1 g) k2 (x_sh s k2) = va_up (x_sh s) k1 g := by
    funext j
    unfold va_up
    by_cases hj : j = k2
    · subst hj
      rw [if_pos rfl, if_neg (fun q => hn q.symm)]
    · rw [if_neg hj]
  show xW cA ax (x_set_sh (x_set_sh s (va_up (x_sh s) k1 g)) (va_up (va_up (x_sh s) k1 g) k2 (x_sh s k2))) = _
  rw [e3]
theorem nd_sh2 {k1 k2 : Nat} (hn : ¬ k1 = k2) : va_nd [46+2*k1, 46+2*k1+1, 46+2*k2, 46+2*k2+1] = true := by
  simp [va_nd]
  omega
theorem pick {α : Sort _} {c : Prop} [Decidable c] {A B r : α} (h : (if c then A else B) = r) : (c ∧ A = r) ∨ (¬ c ∧ B = r) := by
  by_cases hc : c
  · exact Or.inl ⟨hc, by rw [if_pos hc] at h; exact h⟩
  · exact Or.inr ⟨hc, by rw [if_neg hc] at h; exact h⟩
def questionW (ax : Nat → Nat) (q : Nat) (ab x y z : Int32) (pic : Option Nat) : va_W := [(q, .inr (4, [.int ab, .int x, .int y, .int z, va_rf (Option.map (fun k => ax (46+2*k)) pic)]))]
