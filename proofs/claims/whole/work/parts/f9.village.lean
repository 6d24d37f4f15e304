theorem pr_village {S : ab_S} {I : ab_I} {J : ab_J} {P : ab_P} {l : Launch} {G : ab_G} (hR : rx_R S I J P) : lz_pr l G rx_R mX11_village 129 mX12_village 7 [] S I J P := by
  sorry
