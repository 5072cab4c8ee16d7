abbrev CT : Type := (Nat → Int32) × Int32 × (Nat → Int32) × (Nat → Int32) × Int32 × Int32
def ct_codes (σ : CT) : (Nat → Int32) := σ.1
def ct_length (σ : CT) : Int32 := σ.2.1
def ct_sectors (σ : CT) : (Nat → Int32) := σ.2.2.1
def ct_values (σ : CT) : (Nat → Int32) := σ.2.2.2.1
def ct_commands (σ : CT) : Int32 := σ.2.2.2.2.1
def ct_at (σ : CT) : Int32 := σ.2.2.2.2.2
def ct_setCodes (σ : CT) (v : (Nat → Int32)) : CT := (v, σ.2.1, σ.2.2.1, σ.2.2.2.1, σ.2.2.2.2.1, σ.2.2.2.2.2)
def ct_setLength (σ : CT) (v : Int32) : CT := (σ.1, v, σ.2.2.1, σ.2.2.2.1, σ.2.2.2.2.1, σ.2.2.2.2.2)
def ct_setSectors (σ : CT) (v : (Nat → Int32)) : CT := (σ.1, σ.2.1, v, σ.2.2.2.1, σ.2.2.2.2.1, σ.2.2.2.2.2)
def ct_setValues (σ : CT) (v : (Nat → Int32)) : CT := (σ.1, σ.2.1, σ.2.2.1, v, σ.2.2.2.2.1, σ.2.2.2.2.2)
def ct_setCommands (σ : CT) (v : Int32) : CT := (σ.1, σ.2.1, σ.2.2.1, σ.2.2.2.1, v, σ.2.2.2.2.2)
def ct_setAt (σ : CT) (v : Int32) : CT := (σ.1, σ.2.1, σ.2.2.1, σ.2.2.2.1, σ.2.2.2.2.1, v)
theorem ct_codes_setCodes (σ : CT) (v : (Nat → Int32)) : ct_codes (ct_setCodes σ v) = v := rfl
theorem ct_codes_setLength (σ : CT) (v : Int32) : ct_codes (ct_setLength σ v) = ct_codes σ := rfl
theorem ct_codes_setSectors (σ : CT) (v : (Nat → Int32)) : ct_codes (ct_setSectors σ v) = ct_codes σ := rfl
theorem ct_codes_setValues (σ : CT) (v : (Nat → Int32)) : ct_codes (ct_setValues σ v) = ct_codes σ := rfl
theorem ct_codes_setCommands (σ : CT) (v : Int32) : ct_codes (ct_setCommands σ v) = ct_codes σ := rfl
theorem ct_codes_setAt (σ : CT) (v : Int32) : ct_codes (ct_setAt σ v) = ct_codes σ := rfl
theorem ct_length_setCodes (σ : CT) (v : (Nat → Int32)) : ct_length (ct_setCodes σ v) = ct_length σ := rfl
theorem ct_length_setLength (σ : CT) (v : Int32) : ct_length (ct_setLength σ v) = v := rfl
theorem ct_length_setSectors (σ : CT) (v : (Nat → Int32)) : ct_length (ct_setSectors σ v) = ct_length σ := rfl
theorem ct_length_setValues (σ : CT) (v : (Nat → Int32)) : ct_length (ct_setValues σ v) = ct_length σ := rfl
theorem ct_length_setCommands (σ : CT) (v : Int32) : ct_length (ct_setCommands σ v) = ct_length σ := rfl
theorem ct_length_setAt (σ : CT) (v : Int32) : ct_length (ct_setAt σ v) = ct_length σ := rfl
theorem ct_sectors_setCodes (σ : CT) (v : (Nat → Int32)) : ct_sectors (ct_setCodes σ v) = ct_sectors σ := rfl
theorem ct_sectors_setLength (σ : CT) (v : Int32) : ct_sectors (ct_setLength σ v) = ct_sectors σ := rfl
theorem ct_sectors_setSectors (σ : CT) (v : (Nat → Int32)) : ct_sectors (ct_setSectors σ v) = v := rfl
theorem ct_sectors_setValues (σ : CT) (v : (Nat → Int32)) : ct_sectors (ct_setValues σ v) = ct_sectors σ := rfl
theorem ct_sectors_setCommands (σ : CT) (v : Int32) : ct_sectors (ct_setCommands σ v) = ct_sectors σ := rfl
theorem ct_sectors_setAt (σ : CT) (v : Int32) : ct_sectors (ct_setAt σ v) = ct_sectors σ := rfl
theorem ct_values_setCodes (σ : CT) (v : (Nat → Int32)) : ct_values (ct_setCodes σ v) = ct_values σ := rfl
theorem ct_values_setLength (σ : CT) (v : Int32) : ct_values (ct_setLength σ v) = ct_values σ := rfl
theorem ct_values_setSectors (σ : CT) (v : (Nat → Int32)) : ct_values (ct_setSectors σ v) = ct_values σ := rfl
theorem ct_values_setValues (σ : CT) (v : (Nat → Int32)) : ct_values (ct_setValues σ v) = v := rfl
theorem ct_values_setCommands (σ : CT) (v : Int32) : ct_values (ct_setCommands σ v) = ct_values σ := rfl
theorem ct_values_setAt (σ : CT) (v : Int32) : ct_values (ct_setAt σ v) = ct_values σ := rfl
theorem ct_commands_setCodes (σ : CT) (v : (Nat → Int32)) : ct_commands (ct_setCodes σ v) = ct_commands σ := rfl
theorem ct_commands_setLength (σ : CT) (v : Int32) : ct_commands (ct_setLength σ v) = ct_commands σ := rfl
theorem ct_commands_setSectors (σ : CT) (v : (Nat → Int32)) : ct_commands (ct_setSectors σ v) = ct_commands σ := rfl
theorem ct_commands_setValues (σ : CT) (v : (Nat → Int32)) : ct_commands (ct_setValues σ v) = ct_commands σ := rfl
theorem ct_commands_setCommands (σ : CT) (v : Int32) : ct_commands (ct_setCommands σ v) = v := rfl
theorem ct_commands_setAt (σ : CT) (v : Int32) : ct_commands (ct_setAt σ v) = ct_commands σ := rfl
theorem ct_at_setCodes (σ : CT) (v : (Nat → Int32)) : ct_at (ct_setCodes σ v) = ct_at σ := rfl
theorem ct_at_setLength (σ : CT) (v : Int32) : ct_at (ct_setLength σ v) = ct_at σ := rfl
theorem ct_at_setSectors (σ : CT) (v : (Nat → Int32)) : ct_at (ct_setSectors σ v) = ct_at σ := rfl
theorem ct_at_setValues (σ : CT) (v : (Nat → Int32)) : ct_at (ct_setValues σ v) = ct_at σ := rfl
theorem ct_at_setCommands (σ : CT) (v : Int32) : ct_at (ct_setCommands σ v) = ct_at σ := rfl
theorem ct_at_setAt (σ : CT) (v : Int32) : ct_at (ct_setAt σ v) = v := rfl
def fsX0 (a : Nat → Nat) (σ : CT) : List Value := [.ref (a 1), .int (ct_length σ), .ref (a 2), .ref (a 3), .int (ct_commands σ), .int (ct_at σ)]
def wX0 (k : KT) (a : Nat → Nat) (σ : CT) : va_W := [(a 0, .inr (0, fsX0 a σ)), (a 1, .inl (k.1, 60, .inl (ct_codes σ))), (a 2, .inl (k.1, 20, .inl (ct_sectors σ))), (a 3, .inl (k.1, 20, .inl (ct_values σ)))]
theorem wX0_stCodes (k : KT) (a : Nat → Nat) (σ : CT) (v : Nat → Int32) : (wX0 k a σ).set 1 (a 1, .inl (k.1, 60, .inl v)) = wX0 k a (ct_setCodes σ v) := rfl
theorem wX0_putLength (k : KT) (a : Nat → Nat) (σ : CT) (v : Int32) : (wX0 k a σ).set 0 (a 0, .inr (0, (fsX0 a σ).set 1 (.int v))) = wX0 k a (ct_setLength σ v) := rfl
theorem wX0_stSectors (k : KT) (a : Nat → Nat) (σ : CT) (v : Nat → Int32) : (wX0 k a σ).set 2 (a 2, .inl (k.1, 20, .inl v)) = wX0 k a (ct_setSectors σ v) := rfl
theorem wX0_stValues (k : KT) (a : Nat → Nat) (σ : CT) (v : Nat → Int32) : (wX0 k a σ).set 3 (a 3, .inl (k.1, 20, .inl v)) = wX0 k a (ct_setValues σ v) := rfl
theorem wX0_putCommands (k : KT) (a : Nat → Nat) (σ : CT) (v : Int32) : (wX0 k a σ).set 0 (a 0, .inr (0, (fsX0 a σ).set 4 (.int v))) = wX0 k a (ct_setCommands σ v) := rfl
theorem wX0_putAt (k : KT) (a : Nat → Nat) (σ : CT) (v : Int32) : (wX0 k a σ).set 0 (a 0, .inr (0, (fsX0 a σ).set 5 (.int v))) = wX0 k a (ct_setAt σ v) := rfl
abbrev HS : Type := Int32 × (Nat → Int32) × (Nat → Int32) × (Nat → Int32) × (Nat → Int32) × (Nat → Int32) × (Nat → Int32) × (Nat → Int32) × (Nat → Int32) × Int32 × Int32 × Int32 × Int32 × Int32 × Int32
def hs_limit (σ : HS) : Int32 := σ.1
def hs_ageing (σ : HS) : (Nat → Int32) := σ.2.1
def hs_spares (σ : HS) : (Nat → Int32) := σ.2.2.1
def hs_givenUp (σ : HS) : (Nat → Int32) := σ.2.2.2.1
def hs_wear (σ : HS) : (Nat → Int32) := σ.2.2.2.2.1
def hs_value (σ : HS) : (Nat → Int32) := σ.2.2.2.2.2.1
def hs_rescuesOf (σ : HS) : (Nat → Int32) := σ.2.2.2.2.2.2.1
def hs_server (σ : HS) : (Nat → Int32) := σ.2.2.2.2.2.2.2.1
def hs_client (σ : HS) : (Nat → Int32) := σ.2.2.2.2.2.2.2.2.1
def hs_arm (σ : HS) : Int32 := σ.2.2.2.2.2.2.2.2.2.1
def hs_steps (σ : HS) : Int32 := σ.2.2.2.2.2.2.2.2.2.2.1
def hs_rescues (σ : HS) : Int32 := σ.2.2.2.2.2.2.2.2.2.2.2.1
def hs_losses (σ : HS) : Int32 := σ.2.2.2.2.2.2.2.2.2.2.2.2.1
def hs_reads (σ : HS) : Int32 := σ.2.2.2.2.2.2.2.2.2.2.2.2.2.1
def hs_writes (σ : HS) : Int32 := σ.2.2.2.2.2.2.2.2.2.2.2.2.2.2
def hs_setLimit (σ : HS) (v : Int32) : HS := (v, σ.2.1, σ.2.2.1, σ.2.2.2.1, σ.2.2.2.2.1, σ.2.2.2.2.2.1, σ.2.2.2.2.2.2.1, σ.2.2.2.2.2.2.2.1, σ.2.2.2.2.2.2.2.2.1, σ.2.2.2.2.2.2.2.2.2.1, σ.2.2.2.2.2.2.2.2.2.2.1, σ.2.2.2.2.2.2.2.2.2.2.2.1, σ.2.2.2.2.2.2.2.2.2.2.2.2.1, σ.2.2.2.2.2.2.2.2.2.2.2.2.2.1, σ.2.2.2.2.2.2.2.2.2.2.2.2.2.2)
def hs_setAgeing (σ : HS) (v : (Nat → Int32)) : HS := (σ.1, v, σ.2.2.1, σ.2.2.2.1, σ.2.2.2.2.1, σ.2.2.2.2.2.1, σ.2.2.2.2.2.2.1, σ.2.2.2.2.2.2.2.1, σ.2.2.2.2.2.2.2.2.1, σ.2.2.2.2.2.2.2.2.2.1, σ.2.2.2.2.2.2.2.2.2.2.1, σ.2.2.2.2.2.2.2.2.2.2.2.1, σ.2.2.2.2.2.2.2.2.2.2.2.2.1, σ.2.2.2.2.2.2.2.2.2.2.2.2.2.1, σ.2.2.2.2.2.2.2.2.2.2.2.2.2.2)
def hs_setSpares (σ : HS) (v : (Nat → Int32)) : HS := (σ.1, σ.2.1, v, σ.2.2.2.1, σ.2.2.2.2.1, σ.2.2.2.2.2.1, σ.2.2.2.2.2.2.1, σ.2.2.2.2.2.2.2.1, σ.2.2.2.2.2.2.2.2.1, σ.2.2.2.2.2.2.2.2.2.1, σ.2.2.2.2.2.2.2.2.2.2.1, σ.2.2.2.2.2.2.2.2.2.2.2.1, σ.2.2.2.2.2.2.2.2.2.2.2.2.1, σ.2.2.2.2.2.2.2.2.2.2.2.2.2.1, σ.2.2.2.2.2.2.2.2.2.2.2.2.2.2)
def hs_setGivenUp (σ : HS) (v : (Nat → Int32)) : HS := (σ.1, σ.2.1, σ.2.2.1, v, σ.2.2.2.2.1, σ.2.2.2.2.2.1, σ.2.2.2.2.2.2.1, σ.2.2.2.2.2.2.2.1, σ.2.2.2.2.2.2.2.2.1, σ.2.2.2.2.2.2.2.2.2.1, σ.2.2.2.2.2.2.2.2.2.2.1, σ.2.2.2.2.2.2.2.2.2.2.2.1, σ.2.2.2.2.2.2.2.2.2.2.2.2.1, σ.2.2.2.2.2.2.2.2.2.2.2.2.2.1, σ.2.2.2.2.2.2.2.2.2.2.2.2.2.2)
def hs_setWear (σ : HS) (v : (Nat → Int32)) : HS := (σ.1, σ.2.1, σ.2.2.1, σ.2.2.2.1, v, σ.2.2.2.2.2.1, σ.2.2.2.2.2.2.1, σ.2.2.2.2.2.2.2.1, σ.2.2.2.2.2.2.2.2.1, σ.2.2.2.2.2.2.2.2.2.1, σ.2.2.2.2.2.2.2.2.2.2.1, σ.2.2.2.2.2.2.2.2.2.2.2.1, σ.2.2.2.2.2.2.2.2.2.2.2.2.1, σ.2.2.2.2.2.2.2.2.2.2.2.2.2.1, σ.2.2.2.2.2.2.2.2.2.2.2.2.2.2)
def hs_setValue (σ : HS) (v : (Nat → Int32)) : HS := (σ.1, σ.2.1, σ.2.2.1, σ.2.2.2.1, σ.2.2.2.2.1, v, σ.2.2.2.2.2.2.1, σ.2.2.2.2.2.2.2.1, σ.2.2.2.2.2.2.2.2.1, σ.2.2.2.2.2.2.2.2.2.1, σ.2.2.2.2.2.2.2.2.2.2.1, σ.2.2.2.2.2.2.2.2.2.2.2.1, σ.2.2.2.2.2.2.2.2.2.2.2.2.1, σ.2.2.2.2.2.2.2.2.2.2.2.2.2.1, σ.2.2.2.2.2.2.2.2.2.2.2.2.2.2)
def hs_setRescuesOf (σ : HS) (v : (Nat → Int32)) : HS := (σ.1, σ.2.1, σ.2.2.1, σ.2.2.2.1, σ.2.2.2.2.1, σ.2.2.2.2.2.1, v, σ.2.2.2.2.2.2.2.1, σ.2.2.2.2.2.2.2.2.1, σ.2.2.2.2.2.2.2.2.2.1, σ.2.2.2.2.2.2.2.2.2.2.1, σ.2.2.2.2.2.2.2.2.2.2.2.1, σ.2.2.2.2.2.2.2.2.2.2.2.2.1, σ.2.2.2.2.2.2.2.2.2.2.2.2.2.1, σ.2.2.2.2.2.2.2.2.2.2.2.2.2.2)
def hs_setServer (σ : HS) (v : (Nat → Int32)) : HS := (σ.1, σ.2.1, σ.2.2.1, σ.2.2.2.1, σ.2.2.2.2.1, σ.2.2.2.2.2.1, σ.2.2.2.2.2.2.1, v, σ.2.2.2.2.2.2.2.2.1, σ.2.2.2.2.2.2.2.2.2.1, σ.2.2.2.2.2.2.2.2.2.2.1, σ.2.2.2.2.2.2.2.2.2.2.2.1, σ.2.2.2.2.2.2.2.2.2.2.2.2.1, σ.2.2.2.2.2.2.2.2.2.2.2.2.2.1, σ.2.2.2.2.2.2.2.2.2.2.2.2.2.2)
def hs_setClient (σ : HS) (v : (Nat → Int32)) : HS := (σ.1, σ.2.1, σ.2.2.1, σ.2.2.2.1, σ.2.2.2.2.1, σ.2.2.2.2.2.1, σ.2.2.2.2.2.2.1, σ.2.2.2.2.2.2.2.1, v, σ.2.2.2.2.2.2.2.2.2.1, σ.2.2.2.2.2.2.2.2.2.2.1, σ.2.2.2.2.2.2.2.2.2.2.2.1, σ.2.2.2.2.2.2.2.2.2.2.2.2.1, σ.2.2.2.2.2.2.2.2.2.2.2.2.2.1, σ.2.2.2.2.2.2.2.2.2.2.2.2.2.2)
def hs_setArm (σ : HS) (v : Int32) : HS := (σ.1, σ.2.1, σ.2.2.1, σ.2.2.2.1, σ.2.2.2.2.1, σ.2.2.2.2.2.1, σ.2.2.2.2.2.2.1, σ.2.2.2.2.2.2.2.1, σ.2.2.2.2.2.2.2.2.1, v, σ.2.2.2.2.2.2.2.2.2.2.1, σ.2.2.2.2.2.2.2.2.2.2.2.1, σ.2.2.2.2.2.2.2.2.2.2.2.2.1, σ.2.2.2.2.2.2.2.2.2.2.2.2.2.1, σ.2.2.2.2.2.2.2.2.2.2.2.2.2.2)
def hs_setSteps (σ : HS) (v : Int32) : HS := (σ.1, σ.2.1, σ.2.2.1, σ.2.2.2.1, σ.2.2.2.2.1, σ.2.2.2.2.2.1, σ.2.2.2.2.2.2.1, σ.2.2.2.2.2.2.2.1, σ.2.2.2.2.2.2.2.2.1, σ.2.2.2.2.2.2.2.2.2.1, v, σ.2.2.2.2.2.2.2.2.2.2.2.1, σ.2.2.2.2.2.2.2.2.2.2.2.2.1, σ.2.2.2.2.2.2.2.2.2.2.2.2.2.1, σ.2.2.2.2.2.2.2.2.2.2.2.2.2.2)
def hs_setRescues (σ : HS) (v : Int32) : HS := (σ.1, σ.2.1, σ.2.2.1, σ.2.2.2.1, σ.2.2.2.2.1, σ.2.2.2.2.2.1, σ.2.2.2.2.2.2.1, σ.2.2.2.2.2.2.2.1, σ.2.2.2.2.2.2.2.2.1, σ.2.2.2.2.2.2.2.2.2.1, σ.2.2.2.2.2.2.2.2.2.2.1, v, σ.2.2.2.2.2.2.2.2.2.2.2.2.1, σ.2.2.2.2.2.2.2.2.2.2.2.2.2.1, σ.2.2.2.2.2.2.2.2.2.2.2.2.2.2)
def hs_setLosses (σ : HS) (v : Int32) : HS := (σ.1, σ.2.1, σ.2.2.1, σ.2.2.2.1, σ.2.2.2.2.1, σ.2.2.2.2.2.1, σ.2.2.2.2.2.2.1, σ.2.2.2.2.2.2.2.1, σ.2.2.2.2.2.2.2.2.1, σ.2.2.2.2.2.2.2.2.2.1, σ.2.2.2.2.2.2.2.2.2.2.1, σ.2.2.2.2.2.2.2.2.2.2.2.1, v, σ.2.2.2.2.2.2.2.2.2.2.2.2.2.1, σ.2.2.2.2.2.2.2.2.2.2.2.2.2.2)
def hs_setReads (σ : HS) (v : Int32) : HS := (σ.1, σ.2.1, σ.2.2.1, σ.2.2.2.1, σ.2.2.2.2.1, σ.2.2.2.2.2.1, σ.2.2.2.2.2.2.1, σ.2.2.2.2.2.2.2.1, σ.2.2.2.2.2.2.2.2.1, σ.2.2.2.2.2.2.2.2.2.1, σ.2.2.2.2.2.2.2.2.2.2.1, σ.2.2.2.2.2.2.2.2.2.2.2.1, σ.2.2.2.2.2.2.2.2.2.2.2.2.1, v, σ.2.2.2.2.2.2.2.2.2.2.2.2.2.2)
def hs_setWrites (σ : HS) (v : Int32) : HS := (σ.1, σ.2.1, σ.2.2.1, σ.2.2.2.1, σ.2.2.2.2.1, σ.2.2.2.2.2.1, σ.2.2.2.2.2.2.1, σ.2.2.2.2.2.2.2.1, σ.2.2.2.2.2.2.2.2.1, σ.2.2.2.2.2.2.2.2.2.1, σ.2.2.2.2.2.2.2.2.2.2.1, σ.2.2.2.2.2.2.2.2.2.2.2.1, σ.2.2.2.2.2.2.2.2.2.2.2.2.1, σ.2.2.2.2.2.2.2.2.2.2.2.2.2.1, v)
theorem hs_limit_setLimit (σ : HS) (v : Int32) : hs_limit (hs_setLimit σ v) = v := rfl
theorem hs_limit_setAgeing (σ : HS) (v : (Nat → Int32)) : hs_limit (hs_setAgeing σ v) = hs_limit σ := rfl
theorem hs_limit_setSpares (σ : HS) (v : (Nat → Int32)) : hs_limit (hs_setSpares σ v) = hs_limit σ := rfl
theorem hs_limit_setGivenUp (σ : HS) (v : (Nat → Int32)) : hs_limit (hs_setGivenUp σ v) = hs_limit σ := rfl
theorem hs_limit_setWear (σ : HS) (v : (Nat → Int32)) : hs_limit (hs_setWear σ v) = hs_limit σ := rfl
theorem hs_limit_setValue (σ : HS) (v : (Nat → Int32)) : hs_limit (hs_setValue σ v) = hs_limit σ := rfl
theorem hs_limit_setRescuesOf (σ : HS) (v : (Nat → Int32)) : hs_limit (hs_setRescuesOf σ v) = hs_limit σ := rfl
theorem hs_limit_setServer (σ : HS) (v : (Nat → Int32)) : hs_limit (hs_setServer σ v) = hs_limit σ := rfl
theorem hs_limit_setClient (σ : HS) (v : (Nat → Int32)) : hs_limit (hs_setClient σ v) = hs_limit σ := rfl
theorem hs_limit_setArm (σ : HS) (v : Int32) : hs_limit (hs_setArm σ v) = hs_limit σ := rfl
theorem hs_limit_setSteps (σ : HS) (v : Int32) : hs_limit (hs_setSteps σ v) = hs_limit σ := rfl
theorem hs_limit_setRescues (σ : HS) (v : Int32) : hs_limit (hs_setRescues σ v) = hs_limit σ := rfl
theorem hs_limit_setLosses (σ : HS) (v : Int32) : hs_limit (hs_setLosses σ v) = hs_limit σ := rfl
theorem hs_limit_setReads (σ : HS) (v : Int32) : hs_limit (hs_setReads σ v) = hs_limit σ := rfl
theorem hs_limit_setWrites (σ : HS) (v : Int32) : hs_limit (hs_setWrites σ v) = hs_limit σ := rfl
theorem hs_ageing_setLimit (σ : HS) (v : Int32) : hs_ageing (hs_setLimit σ v) = hs_ageing σ := rfl
theorem hs_ageing_setAgeing (σ : HS) (v : (Nat → Int32)) : hs_ageing (hs_setAgeing σ v) = v := rfl
theorem hs_ageing_setSpares (σ : HS) (v : (Nat → Int32)) : hs_ageing (hs_setSpares σ v) = hs_ageing σ := rfl
theorem hs_ageing_setGivenUp (σ : HS) (v : (Nat → Int32)) : hs_ageing (hs_setGivenUp σ v) = hs_ageing σ := rfl
theorem hs_ageing_setWear (σ : HS) (v : (Nat → Int32)) : hs_ageing (hs_setWear σ v) = hs_ageing σ := rfl
theorem hs_ageing_setValue (σ : HS) (v : (Nat → Int32)) : hs_ageing (hs_setValue σ v) = hs_ageing σ := rfl
theorem hs_ageing_setRescuesOf (σ : HS) (v : (Nat → Int32)) : hs_ageing (hs_setRescuesOf σ v) = hs_ageing σ := rfl
theorem hs_ageing_setServer (σ : HS) (v : (Nat → Int32)) : hs_ageing (hs_setServer σ v) = hs_ageing σ := rfl
theorem hs_ageing_setClient (σ : HS) (v : (Nat → Int32)) : hs_ageing (hs_setClient σ v) = hs_ageing σ := rfl
theorem hs_ageing_setArm (σ : HS) (v : Int32) : hs_ageing (hs_setArm σ v) = hs_ageing σ := rfl
theorem hs_ageing_setSteps (σ : HS) (v : Int32) : hs_ageing (hs_setSteps σ v) = hs_ageing σ := rfl
theorem hs_ageing_setRescues (σ : HS) (v : Int32) : hs_ageing (hs_setRescues σ v) = hs_ageing σ := rfl
theorem hs_ageing_setLosses (σ : HS) (v : Int32) : hs_ageing (hs_setLosses σ v) = hs_ageing σ := rfl
theorem hs_ageing_setReads (σ : HS) (v : Int32) : hs_ageing (hs_setReads σ v) = hs_ageing σ := rfl
theorem hs_ageing_setWrites (σ : HS) (v : Int32) : hs_ageing (hs_setWrites σ v) = hs_ageing σ := rfl
theorem hs_spares_setLimit (σ : HS) (v : Int32) : hs_spares (hs_setLimit σ v) = hs_spares σ := rfl
theorem hs_spares_setAgeing (σ : HS) (v : (Nat → Int32)) : hs_spares (hs_setAgeing σ v) = hs_spares σ := rfl
theorem hs_spares_setSpares (σ : HS) (v : (Nat → Int32)) : hs_spares (hs_setSpares σ v) = v := rfl
theorem hs_spares_setGivenUp (σ : HS) (v : (Nat → Int32)) : hs_spares (hs_setGivenUp σ v) = hs_spares σ := rfl
theorem hs_spares_setWear (σ : HS) (v : (Nat → Int32)) : hs_spares (hs_setWear σ v) = hs_spares σ := rfl
theorem hs_spares_setValue (σ : HS) (v : (Nat → Int32)) : hs_spares (hs_setValue σ v) = hs_spares σ := rfl
theorem hs_spares_setRescuesOf (σ : HS) (v : (Nat → Int32)) : hs_spares (hs_setRescuesOf σ v) = hs_spares σ := rfl
theorem hs_spares_setServer (σ : HS) (v : (Nat → Int32)) : hs_spares (hs_setServer σ v) = hs_spares σ := rfl
theorem hs_spares_setClient (σ : HS) (v : (Nat → Int32)) : hs_spares (hs_setClient σ v) = hs_spares σ := rfl
theorem hs_spares_setArm (σ : HS) (v : Int32) : hs_spares (hs_setArm σ v) = hs_spares σ := rfl
theorem hs_spares_setSteps (σ : HS) (v : Int32) : hs_spares (hs_setSteps σ v) = hs_spares σ := rfl
theorem hs_spares_setRescues (σ : HS) (v : Int32) : hs_spares (hs_setRescues σ v) = hs_spares σ := rfl
theorem hs_spares_setLosses (σ : HS) (v : Int32) : hs_spares (hs_setLosses σ v) = hs_spares σ := rfl
theorem hs_spares_setReads (σ : HS) (v : Int32) : hs_spares (hs_setReads σ v) = hs_spares σ := rfl
theorem hs_spares_setWrites (σ : HS) (v : Int32) : hs_spares (hs_setWrites σ v) = hs_spares σ := rfl
theorem hs_givenUp_setLimit (σ : HS) (v : Int32) : hs_givenUp (hs_setLimit σ v) = hs_givenUp σ := rfl
theorem hs_givenUp_setAgeing (σ : HS) (v : (Nat → Int32)) : hs_givenUp (hs_setAgeing σ v) = hs_givenUp σ := rfl
theorem hs_givenUp_setSpares (σ : HS) (v : (Nat → Int32)) : hs_givenUp (hs_setSpares σ v) = hs_givenUp σ := rfl
theorem hs_givenUp_setGivenUp (σ : HS) (v : (Nat → Int32)) : hs_givenUp (hs_setGivenUp σ v) = v := rfl
theorem hs_givenUp_setWear (σ : HS) (v : (Nat → Int32)) : hs_givenUp (hs_setWear σ v) = hs_givenUp σ := rfl
theorem hs_givenUp_setValue (σ : HS) (v : (Nat → Int32)) : hs_givenUp (hs_setValue σ v) = hs_givenUp σ := rfl
theorem hs_givenUp_setRescuesOf (σ : HS) (v : (Nat → Int32)) : hs_givenUp (hs_setRescuesOf σ v) = hs_givenUp σ := rfl
theorem hs_givenUp_setServer (σ : HS) (v : (Nat → Int32)) : hs_givenUp (hs_setServer σ v) = hs_givenUp σ := rfl
theorem hs_givenUp_setClient (σ : HS) (v : (Nat → Int32)) : hs_givenUp (hs_setClient σ v) = hs_givenUp σ := rfl
theorem hs_givenUp_setArm (σ : HS) (v : Int32) : hs_givenUp (hs_setArm σ v) = hs_givenUp σ := rfl
theorem hs_givenUp_setSteps (σ : HS) (v : Int32) : hs_givenUp (hs_setSteps σ v) = hs_givenUp σ := rfl
theorem hs_givenUp_setRescues (σ : HS) (v : Int32) : hs_givenUp (hs_setRescues σ v) = hs_givenUp σ := rfl
theorem hs_givenUp_setLosses (σ : HS) (v : Int32) : hs_givenUp (hs_setLosses σ v) = hs_givenUp σ := rfl
theorem hs_givenUp_setReads (σ : HS) (v : Int32) : hs_givenUp (hs_setReads σ v) = hs_givenUp σ := rfl
theorem hs_givenUp_setWrites (σ : HS) (v : Int32) : hs_givenUp (hs_setWrites σ v) = hs_givenUp σ := rfl
theorem hs_wear_setLimit (σ : HS) (v : Int32) : hs_wear (hs_setLimit σ v) = hs_wear σ := rfl
theorem hs_wear_setAgeing (σ : HS) (v : (Nat → Int32)) : hs_wear (hs_setAgeing σ v) = hs_wear σ := rfl
theorem hs_wear_setSpares (σ : HS) (v : (Nat → Int32)) : hs_wear (hs_setSpares σ v) = hs_wear σ := rfl
theorem hs_wear_setGivenUp (σ : HS) (v : (Nat → Int32)) : hs_wear (hs_setGivenUp σ v) = hs_wear σ := rfl
theorem hs_wear_setWear (σ : HS) (v : (Nat → Int32)) : hs_wear (hs_setWear σ v) = v := rfl
theorem hs_wear_setValue (σ : HS) (v : (Nat → Int32)) : hs_wear (hs_setValue σ v) = hs_wear σ := rfl
theorem hs_wear_setRescuesOf (σ : HS) (v : (Nat → Int32)) : hs_wear (hs_setRescuesOf σ v) = hs_wear σ := rfl
theorem hs_wear_setServer (σ : HS) (v : (Nat → Int32)) : hs_wear (hs_setServer σ v) = hs_wear σ := rfl
theorem hs_wear_setClient (σ : HS) (v : (Nat → Int32)) : hs_wear (hs_setClient σ v) = hs_wear σ := rfl
theorem hs_wear_setArm (σ : HS) (v : Int32) : hs_wear (hs_setArm σ v) = hs_wear σ := rfl
theorem hs_wear_setSteps (σ : HS) (v : Int32) : hs_wear (hs_setSteps σ v) = hs_wear σ := rfl
theorem hs_wear_setRescues (σ : HS) (v : Int32) : hs_wear (hs_setRescues σ v) = hs_wear σ := rfl
theorem hs_wear_setLosses (σ : HS) (v : Int32) : hs_wear (hs_setLosses σ v) = hs_wear σ := rfl
theorem hs_wear_setReads (σ : HS) (v : Int32) : hs_wear (hs_setReads σ v) = hs_wear σ := rfl
theorem hs_wear_setWrites (σ : HS) (v : Int32) : hs_wear (hs_setWrites σ v) = hs_wear σ := rfl
theorem hs_value_setLimit (σ : HS) (v : Int32) : hs_value (hs_setLimit σ v) = hs_value σ := rfl
theorem hs_value_setAgeing (σ : HS) (v : (Nat → Int32)) : hs_value (hs_setAgeing σ v) = hs_value σ := rfl
theorem hs_value_setSpares (σ : HS) (v : (Nat → Int32)) : hs_value (hs_setSpares σ v) = hs_value σ := rfl
theorem hs_value_setGivenUp (σ : HS) (v : (Nat → Int32)) : hs_value (hs_setGivenUp σ v) = hs_value σ := rfl
theorem hs_value_setWear (σ : HS) (v : (Nat → Int32)) : hs_value (hs_setWear σ v) = hs_value σ := rfl
theorem hs_value_setValue (σ : HS) (v : (Nat → Int32)) : hs_value (hs_setValue σ v) = v := rfl
theorem hs_value_setRescuesOf (σ : HS) (v : (Nat → Int32)) : hs_value (hs_setRescuesOf σ v) = hs_value σ := rfl
theorem hs_value_setServer (σ : HS) (v : (Nat → Int32)) : hs_value (hs_setServer σ v) = hs_value σ := rfl
theorem hs_value_setClient (σ : HS) (v : (Nat → Int32)) : hs_value (hs_setClient σ v) = hs_value σ := rfl
theorem hs_value_setArm (σ : HS) (v : Int32) : hs_value (hs_setArm σ v) = hs_value σ := rfl
theorem hs_value_setSteps (σ : HS) (v : Int32) : hs_value (hs_setSteps σ v) = hs_value σ := rfl
theorem hs_value_setRescues (σ : HS) (v : Int32) : hs_value (hs_setRescues σ v) = hs_value σ := rfl
theorem hs_value_setLosses (σ : HS) (v : Int32) : hs_value (hs_setLosses σ v) = hs_value σ := rfl
theorem hs_value_setReads (σ : HS) (v : Int32) : hs_value (hs_setReads σ v) = hs_value σ := rfl
theorem hs_value_setWrites (σ : HS) (v : Int32) : hs_value (hs_setWrites σ v) = hs_value σ := rfl
theorem hs_rescuesOf_setLimit (σ : HS) (v : Int32) : hs_rescuesOf (hs_setLimit σ v) = hs_rescuesOf σ := rfl
theorem hs_rescuesOf_setAgeing (σ : HS) (v : (Nat → Int32)) : hs_rescuesOf (hs_setAgeing σ v) = hs_rescuesOf σ := rfl
theorem hs_rescuesOf_setSpares (σ : HS) (v : (Nat → Int32)) : hs_rescuesOf (hs_setSpares σ v) = hs_rescuesOf σ := rfl
theorem hs_rescuesOf_setGivenUp (σ : HS) (v : (Nat → Int32)) : hs_rescuesOf (hs_setGivenUp σ v) = hs_rescuesOf σ := rfl
theorem hs_rescuesOf_setWear (σ : HS) (v : (Nat → Int32)) : hs_rescuesOf (hs_setWear σ v) = hs_rescuesOf σ := rfl
theorem hs_rescuesOf_setValue (σ : HS) (v : (Nat → Int32)) : hs_rescuesOf (hs_setValue σ v) = hs_rescuesOf σ := rfl
theorem hs_rescuesOf_setRescuesOf (σ : HS) (v : (Nat → Int32)) : hs_rescuesOf (hs_setRescuesOf σ v) = v := rfl
theorem hs_rescuesOf_setServer (σ : HS) (v : (Nat → Int32)) : hs_rescuesOf (hs_setServer σ v) = hs_rescuesOf σ := rfl
theorem hs_rescuesOf_setClient (σ : HS) (v : (Nat → Int32)) : hs_rescuesOf (hs_setClient σ v) = hs_rescuesOf σ := rfl
theorem hs_rescuesOf_setArm (σ : HS) (v : Int32) : hs_rescuesOf (hs_setArm σ v) = hs_rescuesOf σ := rfl
theorem hs_rescuesOf_setSteps (σ : HS) (v : Int32) : hs_rescuesOf (hs_setSteps σ v) = hs_rescuesOf σ := rfl
theorem hs_rescuesOf_setRescues (σ : HS) (v : Int32) : hs_rescuesOf (hs_setRescues σ v) = hs_rescuesOf σ := rfl
theorem hs_rescuesOf_setLosses (σ : HS) (v : Int32) : hs_rescuesOf (hs_setLosses σ v) = hs_rescuesOf σ := rfl
theorem hs_rescuesOf_setReads (σ : HS) (v : Int32) : hs_rescuesOf (hs_setReads σ v) = hs_rescuesOf σ := rfl
theorem hs_rescuesOf_setWrites (σ : HS) (v : Int32) : hs_rescuesOf (hs_setWrites σ v) = hs_rescuesOf σ := rfl
theorem hs_server_setLimit (σ : HS) (v : Int32) : hs_server (hs_setLimit σ v) = hs_server σ := rfl
theorem hs_server_setAgeing (σ : HS) (v : (Nat → Int32)) : hs_server (hs_setAgeing σ v) = hs_server σ := rfl
theorem hs_server_setSpares (σ : HS) (v : (Nat → Int32)) : hs_server (hs_setSpares σ v) = hs_server σ := rfl
theorem hs_server_setGivenUp (σ : HS) (v : (Nat → Int32)) : hs_server (hs_setGivenUp σ v) = hs_server σ := rfl
theorem hs_server_setWear (σ : HS) (v : (Nat → Int32)) : hs_server (hs_setWear σ v) = hs_server σ := rfl
theorem hs_server_setValue (σ : HS) (v : (Nat → Int32)) : hs_server (hs_setValue σ v) = hs_server σ := rfl
theorem hs_server_setRescuesOf (σ : HS) (v : (Nat → Int32)) : hs_server (hs_setRescuesOf σ v) = hs_server σ := rfl
theorem hs_server_setServer (σ : HS) (v : (Nat → Int32)) : hs_server (hs_setServer σ v) = v := rfl
theorem hs_server_setClient (σ : HS) (v : (Nat → Int32)) : hs_server (hs_setClient σ v) = hs_server σ := rfl
theorem hs_server_setArm (σ : HS) (v : Int32) : hs_server (hs_setArm σ v) = hs_server σ := rfl
theorem hs_server_setSteps (σ : HS) (v : Int32) : hs_server (hs_setSteps σ v) = hs_server σ := rfl
theorem hs_server_setRescues (σ : HS) (v : Int32) : hs_server (hs_setRescues σ v) = hs_server σ := rfl
theorem hs_server_setLosses (σ : HS) (v : Int32) : hs_server (hs_setLosses σ v) = hs_server σ := rfl
theorem hs_server_setReads (σ : HS) (v : Int32) : hs_server (hs_setReads σ v) = hs_server σ := rfl
theorem hs_server_setWrites (σ : HS) (v : Int32) : hs_server (hs_setWrites σ v) = hs_server σ := rfl
theorem hs_client_setLimit (σ : HS) (v : Int32) : hs_client (hs_setLimit σ v) = hs_client σ := rfl
theorem hs_client_setAgeing (σ : HS) (v : (Nat → Int32)) : hs_client (hs_setAgeing σ v) = hs_client σ := rfl
theorem hs_client_setSpares (σ : HS) (v : (Nat → Int32)) : hs_client (hs_setSpares σ v) = hs_client σ := rfl
theorem hs_client_setGivenUp (σ : HS) (v : (Nat → Int32)) : hs_client (hs_setGivenUp σ v) = hs_client σ := rfl
theorem hs_client_setWear (σ : HS) (v : (Nat → Int32)) : hs_client (hs_setWear σ v) = hs_client σ := rfl
theorem hs_client_setValue (σ : HS) (v : (Nat → Int32)) : hs_client (hs_setValue σ v) = hs_client σ := rfl
theorem hs_client_setRescuesOf (σ : HS) (v : (Nat → Int32)) : hs_client (hs_setRescuesOf σ v) = hs_client σ := rfl
theorem hs_client_setServer (σ : HS) (v : (Nat → Int32)) : hs_client (hs_setServer σ v) = hs_client σ := rfl
theorem hs_client_setClient (σ : HS) (v : (Nat → Int32)) : hs_client (hs_setClient σ v) = v := rfl
theorem hs_client_setArm (σ : HS) (v : Int32) : hs_client (hs_setArm σ v) = hs_client σ := rfl
theorem hs_client_setSteps (σ : HS) (v : Int32) : hs_client (hs_setSteps σ v) = hs_client σ := rfl
theorem hs_client_setRescues (σ : HS) (v : Int32) : hs_client (hs_setRescues σ v) = hs_client σ := rfl
theorem hs_client_setLosses (σ : HS) (v : Int32) : hs_client (hs_setLosses σ v) = hs_client σ := rfl
theorem hs_client_setReads (σ : HS) (v : Int32) : hs_client (hs_setReads σ v) = hs_client σ := rfl
theorem hs_client_setWrites (σ : HS) (v : Int32) : hs_client (hs_setWrites σ v) = hs_client σ := rfl
theorem hs_arm_setLimit (σ : HS) (v : Int32) : hs_arm (hs_setLimit σ v) = hs_arm σ := rfl
theorem hs_arm_setAgeing (σ : HS) (v : (Nat → Int32)) : hs_arm (hs_setAgeing σ v) = hs_arm σ := rfl
theorem hs_arm_setSpares (σ : HS) (v : (Nat → Int32)) : hs_arm (hs_setSpares σ v) = hs_arm σ := rfl
theorem hs_arm_setGivenUp (σ : HS) (v : (Nat → Int32)) : hs_arm (hs_setGivenUp σ v) = hs_arm σ := rfl
theorem hs_arm_setWear (σ : HS) (v : (Nat → Int32)) : hs_arm (hs_setWear σ v) = hs_arm σ := rfl
theorem hs_arm_setValue (σ : HS) (v : (Nat → Int32)) : hs_arm (hs_setValue σ v) = hs_arm σ := rfl
theorem hs_arm_setRescuesOf (σ : HS) (v : (Nat → Int32)) : hs_arm (hs_setRescuesOf σ v) = hs_arm σ := rfl
theorem hs_arm_setServer (σ : HS) (v : (Nat → Int32)) : hs_arm (hs_setServer σ v) = hs_arm σ := rfl
theorem hs_arm_setClient (σ : HS) (v : (Nat → Int32)) : hs_arm (hs_setClient σ v) = hs_arm σ := rfl
theorem hs_arm_setArm (σ : HS) (v : Int32) : hs_arm (hs_setArm σ v) = v := rfl
theorem hs_arm_setSteps (σ : HS) (v : Int32) : hs_arm (hs_setSteps σ v) = hs_arm σ := rfl
theorem hs_arm_setRescues (σ : HS) (v : Int32) : hs_arm (hs_setRescues σ v) = hs_arm σ := rfl
theorem hs_arm_setLosses (σ : HS) (v : Int32) : hs_arm (hs_setLosses σ v) = hs_arm σ := rfl
theorem hs_arm_setReads (σ : HS) (v : Int32) : hs_arm (hs_setReads σ v) = hs_arm σ := rfl
theorem hs_arm_setWrites (σ : HS) (v : Int32) : hs_arm (hs_setWrites σ v) = hs_arm σ := rfl
theorem hs_steps_setLimit (σ : HS) (v : Int32) : hs_steps (hs_setLimit σ v) = hs_steps σ := rfl
theorem hs_steps_setAgeing (σ : HS) (v : (Nat → Int32)) : hs_steps (hs_setAgeing σ v) = hs_steps σ := rfl
theorem hs_steps_setSpares (σ : HS) (v : (Nat → Int32)) : hs_steps (hs_setSpares σ v) = hs_steps σ := rfl
theorem hs_steps_setGivenUp (σ : HS) (v : (Nat → Int32)) : hs_steps (hs_setGivenUp σ v) = hs_steps σ := rfl
theorem hs_steps_setWear (σ : HS) (v : (Nat → Int32)) : hs_steps (hs_setWear σ v) = hs_steps σ := rfl
theorem hs_steps_setValue (σ : HS) (v : (Nat → Int32)) : hs_steps (hs_setValue σ v) = hs_steps σ := rfl
theorem hs_steps_setRescuesOf (σ : HS) (v : (Nat → Int32)) : hs_steps (hs_setRescuesOf σ v) = hs_steps σ := rfl
theorem hs_steps_setServer (σ : HS) (v : (Nat → Int32)) : hs_steps (hs_setServer σ v) = hs_steps σ := rfl
theorem hs_steps_setClient (σ : HS) (v : (Nat → Int32)) : hs_steps (hs_setClient σ v) = hs_steps σ := rfl
theorem hs_steps_setArm (σ : HS) (v : Int32) : hs_steps (hs_setArm σ v) = hs_steps σ := rfl
theorem hs_steps_setSteps (σ : HS) (v : Int32) : hs_steps (hs_setSteps σ v) = v := rfl
theorem hs_steps_setRescues (σ : HS) (v : Int32) : hs_steps (hs_setRescues σ v) = hs_steps σ := rfl
theorem hs_steps_setLosses (σ : HS) (v : Int32) : hs_steps (hs_setLosses σ v) = hs_steps σ := rfl
theorem hs_steps_setReads (σ : HS) (v : Int32) : hs_steps (hs_setReads σ v) = hs_steps σ := rfl
theorem hs_steps_setWrites (σ : HS) (v : Int32) : hs_steps (hs_setWrites σ v) = hs_steps σ := rfl
theorem hs_rescues_setLimit (σ : HS) (v : Int32) : hs_rescues (hs_setLimit σ v) = hs_rescues σ := rfl
theorem hs_rescues_setAgeing (σ : HS) (v : (Nat → Int32)) : hs_rescues (hs_setAgeing σ v) = hs_rescues σ := rfl
theorem hs_rescues_setSpares (σ : HS) (v : (Nat → Int32)) : hs_rescues (hs_setSpares σ v) = hs_rescues σ := rfl
theorem hs_rescues_setGivenUp (σ : HS) (v : (Nat → Int32)) : hs_rescues (hs_setGivenUp σ v) = hs_rescues σ := rfl
theorem hs_rescues_setWear (σ : HS) (v : (Nat → Int32)) : hs_rescues (hs_setWear σ v) = hs_rescues σ := rfl
theorem hs_rescues_setValue (σ : HS) (v : (Nat → Int32)) : hs_rescues (hs_setValue σ v) = hs_rescues σ := rfl
theorem hs_rescues_setRescuesOf (σ : HS) (v : (Nat → Int32)) : hs_rescues (hs_setRescuesOf σ v) = hs_rescues σ := rfl
theorem hs_rescues_setServer (σ : HS) (v : (Nat → Int32)) : hs_rescues (hs_setServer σ v) = hs_rescues σ := rfl
theorem hs_rescues_setClient (σ : HS) (v : (Nat → Int32)) : hs_rescues (hs_setClient σ v) = hs_rescues σ := rfl
theorem hs_rescues_setArm (σ : HS) (v : Int32) : hs_rescues (hs_setArm σ v) = hs_rescues σ := rfl
theorem hs_rescues_setSteps (σ : HS) (v : Int32) : hs_rescues (hs_setSteps σ v) = hs_rescues σ := rfl
theorem hs_rescues_setRescues (σ : HS) (v : Int32) : hs_rescues (hs_setRescues σ v) = v := rfl
theorem hs_rescues_setLosses (σ : HS) (v : Int32) : hs_rescues (hs_setLosses σ v) = hs_rescues σ := rfl
theorem hs_rescues_setReads (σ : HS) (v : Int32) : hs_rescues (hs_setReads σ v) = hs_rescues σ := rfl
theorem hs_rescues_setWrites (σ : HS) (v : Int32) : hs_rescues (hs_setWrites σ v) = hs_rescues σ := rfl
theorem hs_losses_setLimit (σ : HS) (v : Int32) : hs_losses (hs_setLimit σ v) = hs_losses σ := rfl
theorem hs_losses_setAgeing (σ : HS) (v : (Nat → Int32)) : hs_losses (hs_setAgeing σ v) = hs_losses σ := rfl
theorem hs_losses_setSpares (σ : HS) (v : (Nat → Int32)) : hs_losses (hs_setSpares σ v) = hs_losses σ := rfl
theorem hs_losses_setGivenUp (σ : HS) (v : (Nat → Int32)) : hs_losses (hs_setGivenUp σ v) = hs_losses σ := rfl
theorem hs_losses_setWear (σ : HS) (v : (Nat → Int32)) : hs_losses (hs_setWear σ v) = hs_losses σ := rfl
theorem hs_losses_setValue (σ : HS) (v : (Nat → Int32)) : hs_losses (hs_setValue σ v) = hs_losses σ := rfl
theorem hs_losses_setRescuesOf (σ : HS) (v : (Nat → Int32)) : hs_losses (hs_setRescuesOf σ v) = hs_losses σ := rfl
theorem hs_losses_setServer (σ : HS) (v : (Nat → Int32)) : hs_losses (hs_setServer σ v) = hs_losses σ := rfl
theorem hs_losses_setClient (σ : HS) (v : (Nat → Int32)) : hs_losses (hs_setClient σ v) = hs_losses σ := rfl
theorem hs_losses_setArm (σ : HS) (v : Int32) : hs_losses (hs_setArm σ v) = hs_losses σ := rfl
theorem hs_losses_setSteps (σ : HS) (v : Int32) : hs_losses (hs_setSteps σ v) = hs_losses σ := rfl
theorem hs_losses_setRescues (σ : HS) (v : Int32) : hs_losses (hs_setRescues σ v) = hs_losses σ := rfl
theorem hs_losses_setLosses (σ : HS) (v : Int32) : hs_losses (hs_setLosses σ v) = v := rfl
theorem hs_losses_setReads (σ : HS) (v : Int32) : hs_losses (hs_setReads σ v) = hs_losses σ := rfl
theorem hs_losses_setWrites (σ : HS) (v : Int32) : hs_losses (hs_setWrites σ v) = hs_losses σ := rfl
theorem hs_reads_setLimit (σ : HS) (v : Int32) : hs_reads (hs_setLimit σ v) = hs_reads σ := rfl
theorem hs_reads_setAgeing (σ : HS) (v : (Nat → Int32)) : hs_reads (hs_setAgeing σ v) = hs_reads σ := rfl
theorem hs_reads_setSpares (σ : HS) (v : (Nat → Int32)) : hs_reads (hs_setSpares σ v) = hs_reads σ := rfl
theorem hs_reads_setGivenUp (σ : HS) (v : (Nat → Int32)) : hs_reads (hs_setGivenUp σ v) = hs_reads σ := rfl
theorem hs_reads_setWear (σ : HS) (v : (Nat → Int32)) : hs_reads (hs_setWear σ v) = hs_reads σ := rfl
theorem hs_reads_setValue (σ : HS) (v : (Nat → Int32)) : hs_reads (hs_setValue σ v) = hs_reads σ := rfl
theorem hs_reads_setRescuesOf (σ : HS) (v : (Nat → Int32)) : hs_reads (hs_setRescuesOf σ v) = hs_reads σ := rfl
theorem hs_reads_setServer (σ : HS) (v : (Nat → Int32)) : hs_reads (hs_setServer σ v) = hs_reads σ := rfl
theorem hs_reads_setClient (σ : HS) (v : (Nat → Int32)) : hs_reads (hs_setClient σ v) = hs_reads σ := rfl
theorem hs_reads_setArm (σ : HS) (v : Int32) : hs_reads (hs_setArm σ v) = hs_reads σ := rfl
theorem hs_reads_setSteps (σ : HS) (v : Int32) : hs_reads (hs_setSteps σ v) = hs_reads σ := rfl
theorem hs_reads_setRescues (σ : HS) (v : Int32) : hs_reads (hs_setRescues σ v) = hs_reads σ := rfl
theorem hs_reads_setLosses (σ : HS) (v : Int32) : hs_reads (hs_setLosses σ v) = hs_reads σ := rfl
theorem hs_reads_setReads (σ : HS) (v : Int32) : hs_reads (hs_setReads σ v) = v := rfl
theorem hs_reads_setWrites (σ : HS) (v : Int32) : hs_reads (hs_setWrites σ v) = hs_reads σ := rfl
theorem hs_writes_setLimit (σ : HS) (v : Int32) : hs_writes (hs_setLimit σ v) = hs_writes σ := rfl
theorem hs_writes_setAgeing (σ : HS) (v : (Nat → Int32)) : hs_writes (hs_setAgeing σ v) = hs_writes σ := rfl
theorem hs_writes_setSpares (σ : HS) (v : (Nat → Int32)) : hs_writes (hs_setSpares σ v) = hs_writes σ := rfl
theorem hs_writes_setGivenUp (σ : HS) (v : (Nat → Int32)) : hs_writes (hs_setGivenUp σ v) = hs_writes σ := rfl
theorem hs_writes_setWear (σ : HS) (v : (Nat → Int32)) : hs_writes (hs_setWear σ v) = hs_writes σ := rfl
theorem hs_writes_setValue (σ : HS) (v : (Nat → Int32)) : hs_writes (hs_setValue σ v) = hs_writes σ := rfl
theorem hs_writes_setRescuesOf (σ : HS) (v : (Nat → Int32)) : hs_writes (hs_setRescuesOf σ v) = hs_writes σ := rfl
theorem hs_writes_setServer (σ : HS) (v : (Nat → Int32)) : hs_writes (hs_setServer σ v) = hs_writes σ := rfl
theorem hs_writes_setClient (σ : HS) (v : (Nat → Int32)) : hs_writes (hs_setClient σ v) = hs_writes σ := rfl
theorem hs_writes_setArm (σ : HS) (v : Int32) : hs_writes (hs_setArm σ v) = hs_writes σ := rfl
theorem hs_writes_setSteps (σ : HS) (v : Int32) : hs_writes (hs_setSteps σ v) = hs_writes σ := rfl
theorem hs_writes_setRescues (σ : HS) (v : Int32) : hs_writes (hs_setRescues σ v) = hs_writes σ := rfl
theorem hs_writes_setLosses (σ : HS) (v : Int32) : hs_writes (hs_setLosses σ v) = hs_writes σ := rfl
theorem hs_writes_setReads (σ : HS) (v : Int32) : hs_writes (hs_setReads σ v) = hs_writes σ := rfl
theorem hs_writes_setWrites (σ : HS) (v : Int32) : hs_writes (hs_setWrites σ v) = v := rfl
def fsX1 (a : Nat → Nat) (σ : HS) : List Value := [.int (hs_limit σ), .ref (a 1), .ref (a 2), .ref (a 3), .ref (a 4), .ref (a 5), .ref (a 6), .ref (a 7), .ref (a 8), .int (hs_arm σ), .int (hs_steps σ), .int (hs_rescues σ), .int (hs_losses σ), .int (hs_reads σ), .int (hs_writes σ)]
def wX1 (k : KT) (a : Nat → Nat) (σ : HS) : va_W := [(a 0, .inr (1, fsX1 a σ)), (a 1, .inl (k.1, 4, .inl (hs_ageing σ))), (a 2, .inl (k.1, 4, .inl (hs_spares σ))), (a 3, .inl (k.2.1, 4, .inl (hs_givenUp σ))), (a 4, .inl (k.1, 64, .inl (hs_wear σ))), (a 5, .inl (k.1, 64, .inl (hs_value σ))), (a 6, .inl (k.1, 64, .inl (hs_rescuesOf σ))), (a 7, .inl (k.1, 64, .inl (hs_server σ))), (a 8, .inl (k.1, 64, .inl (hs_client σ)))]
theorem wX1_putLimit (k : KT) (a : Nat → Nat) (σ : HS) (v : Int32) : (wX1 k a σ).set 0 (a 0, .inr (1, (fsX1 a σ).set 0 (.int v))) = wX1 k a (hs_setLimit σ v) := rfl
theorem wX1_stAgeing (k : KT) (a : Nat → Nat) (σ : HS) (v : Nat → Int32) : (wX1 k a σ).set 1 (a 1, .inl (k.1, 4, .inl v)) = wX1 k a (hs_setAgeing σ v) := rfl
theorem wX1_stSpares (k : KT) (a : Nat → Nat) (σ : HS) (v : Nat → Int32) : (wX1 k a σ).set 2 (a 2, .inl (k.1, 4, .inl v)) = wX1 k a (hs_setSpares σ v) := rfl
theorem wX1_stGivenUp (k : KT) (a : Nat → Nat) (σ : HS) (v : Nat → Int32) : (wX1 k a σ).set 3 (a 3, .inl (k.2.1, 4, .inl v)) = wX1 k a (hs_setGivenUp σ v) := rfl
theorem wX1_stWear (k : KT) (a : Nat → Nat) (σ : HS) (v : Nat → Int32) : (wX1 k a σ).set 4 (a 4, .inl (k.1, 64, .inl v)) = wX1 k a (hs_setWear σ v) := rfl
theorem wX1_stValue (k : KT) (a : Nat → Nat) (σ : HS) (v : Nat → Int32) : (wX1 k a σ).set 5 (a 5, .inl (k.1, 64, .inl v)) = wX1 k a (hs_setValue σ v) := rfl
theorem wX1_stRescuesOf (k : KT) (a : Nat → Nat) (σ : HS) (v : Nat → Int32) : (wX1 k a σ).set 6 (a 6, .inl (k.1, 64, .inl v)) = wX1 k a (hs_setRescuesOf σ v) := rfl
theorem wX1_stServer (k : KT) (a : Nat → Nat) (σ : HS) (v : Nat → Int32) : (wX1 k a σ).set 7 (a 7, .inl (k.1, 64, .inl v)) = wX1 k a (hs_setServer σ v) := rfl
theorem wX1_stClient (k : KT) (a : Nat → Nat) (σ : HS) (v : Nat → Int32) : (wX1 k a σ).set 8 (a 8, .inl (k.1, 64, .inl v)) = wX1 k a (hs_setClient σ v) := rfl
theorem wX1_putArm (k : KT) (a : Nat → Nat) (σ : HS) (v : Int32) : (wX1 k a σ).set 0 (a 0, .inr (1, (fsX1 a σ).set 9 (.int v))) = wX1 k a (hs_setArm σ v) := rfl
theorem wX1_putSteps (k : KT) (a : Nat → Nat) (σ : HS) (v : Int32) : (wX1 k a σ).set 0 (a 0, .inr (1, (fsX1 a σ).set 10 (.int v))) = wX1 k a (hs_setSteps σ v) := rfl
theorem wX1_putRescues (k : KT) (a : Nat → Nat) (σ : HS) (v : Int32) : (wX1 k a σ).set 0 (a 0, .inr (1, (fsX1 a σ).set 11 (.int v))) = wX1 k a (hs_setRescues σ v) := rfl
theorem wX1_putLosses (k : KT) (a : Nat → Nat) (σ : HS) (v : Int32) : (wX1 k a σ).set 0 (a 0, .inr (1, (fsX1 a σ).set 12 (.int v))) = wX1 k a (hs_setLosses σ v) := rfl
theorem wX1_putReads (k : KT) (a : Nat → Nat) (σ : HS) (v : Int32) : (wX1 k a σ).set 0 (a 0, .inr (1, (fsX1 a σ).set 13 (.int v))) = wX1 k a (hs_setReads σ v) := rfl
theorem wX1_putWrites (k : KT) (a : Nat → Nat) (σ : HS) (v : Int32) : (wX1 k a σ).set 0 (a 0, .inr (1, (fsX1 a σ).set 14 (.int v))) = wX1 k a (hs_setWrites σ v) := rfl
