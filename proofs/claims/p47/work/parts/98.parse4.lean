/-! ===== the model's reader, on; fault ===== -/
section PM2
variable {R T : GR} {F : GF} {h : GH} {K : GK} {c t m : Nat}
end PM2