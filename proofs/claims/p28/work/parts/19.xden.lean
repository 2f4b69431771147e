section GFX
end GFX
